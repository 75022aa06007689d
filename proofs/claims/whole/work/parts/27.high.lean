/-! BOUNDS; THE TRAIN WITH THE HIGHEST VOLTS -/
def CB (mi : Nat → Nat → Int32) (m : Nat) : Prop := mi 34 5 = nI m ∧ m ≤ 5 ∧ (∀ n, n < m → bd (mi 36 n)) ∧ (∀ i j, i < j → j < m → cP mi i < cP mi j) ∧ (∀ n, n < 5 → cTh mi n = true → bd (mi 41 n)) ∧ (∀ n, n < 5 → (mi 42 n).toInt.natAbs ≤ 100000) ∧ (mi 2 2).toInt.natAbs ≤ 2000 ∧ (mi 2 1).toInt.natAbs ≤ 20 ∧ (mi 2 3).toInt.natAbs ≤ 3000
theorem mul_bd {a b : Int} {A B : Nat} (ha : a.natAbs ≤ A) (hb : b.natAbs ≤ B) : (a * b).natAbs ≤ A * B := by
  rw [Int.natAbs_mul]
  exact Nat.mul_le_mul ha hb
theorem sumI_bd {f : Nat → Int} {B : Nat} : ∀ {k : Nat}, (∀ n, n < k → (f n).natAbs ≤ B) → (sumI f k).natAbs ≤ k * B := by
  intro k
  induction k with
  | zero => intro _; simp [sumI]
  | succ k ih =>
    intro h
    have h1 := ih (fun n hn => h n (by omega))
    have h2 := h k (by omega)
    rw [sumI, Nat.succ_mul]
    have := Int.natAbs_add_le (sumI f k) (f k)
    omega
theorem tmB_bd {th : Bool} {y A a b x : Int} (hy : th = true → 0 ≤ y ∧ y ≤ 200) (hA : A.natAbs ≤ 100000) (ha : 0 ≤ a ∧ a ≤ 200) (hb : 0 ≤ b ∧ b ≤ 200) (hx : 0 ≤ x ∧ x ≤ 200) : (tmB th y A a b x).natAbs ≤ 100000 * 200 * 200 := by
  unfold tmB
  split
  · rename_i h
    have hy := hy h.1
    exact mul_bd (mul_bd hA (by omega)) (by omega)
  · exact Nat.zero_le _
theorem tmY_bd {th : Bool} {y A a x : Int} (hy : th = true → 0 ≤ y ∧ y ≤ 200) (hA : A.natAbs ≤ 100000) (ha : 0 ≤ a ∧ a ≤ 200) (hx : 0 ≤ x ∧ x ≤ 200) : (tmY th y A a x).natAbs ≤ 100000 * 200 := by
  unfold tmY
  split
  · rename_i h
    have hy := hy h.1
    exact mul_bd hA (by omega)
  · exact Nat.zero_le _
theorem CB_v {mi : Nat → Nat → Int32} {m : Nat} {x : Int32} (h : CB mi m) (hx : bd x) : (vUp mi m x).natAbs ≤ 1000000000000 ∧ 0 < vDn mi m x ∧ vDn mi m x ≤ 200000 := by
  obtain ⟨h1, h2, h3, h4, h5, h6, h7, h8, h9⟩ := h
  have hY : ∀ n, n < 5 → cTh mi n = true → 0 ≤ cY mi n ∧ cY mi n ≤ 200 := fun n hn hc => h5 n hn hc
  have hP : ∀ n, n < m → 0 ≤ cP mi n ∧ cP mi n ≤ 200 := fun n hn => h3 n hn
  have hB : ∀ a : Int, 0 ≤ a ∧ a ≤ 200 → (losB mi a x.toInt).natAbs ≤ 5 * (100000 * 200) := fun a ha => sumI_bd (fun n hn => tmY_bd (hY n hn) (h6 n hn) ha hx)
  have hg : 0 < gapV mi (bfV mi x m) (afV mi x m) ∧ gapV mi (bfV mi x m) (afV mi x m) ≤ 200 ∧ (losV mi x.toInt (bfV mi x m) (afV mi x m)).natAbs ≤ 5 * (100000 * 200 * 200) := by
    cases hb : bfV mi x m with
    | none =>
      cases ha : afV mi x m with
      | none => exact ⟨by simp [gapV], by simp [gapV], by simp [losV]⟩
      | some q =>
        have := hB _ (hP q (afV_some ha).1)
        exact ⟨by simp [gapV], by simp [gapV], by show (losB mi (cP mi q) x.toInt).natAbs ≤ _; omega⟩
    | some p =>
      have hp := (bfV_some hb).1
      cases ha : afV mi x m with
      | none =>
        have := hB _ (hP p hp)
        exact ⟨by simp [gapV], by simp [gapV], by show (losB mi (cP mi p) x.toInt).natAbs ≤ _; omega⟩
      | some q =>
        have hq := (afV_some ha).1
        have b1 := hB _ (hP p hp)
        have b2 := hP p hp
        have b3 := hP q hq
        unfold gapV losV
        dsimp only
        by_cases hpq : p < q
        · rw [if_pos hpq, if_pos hpq]
          have := h4 p q hpq hq
          exact ⟨by omega, by omega, sumI_bd (fun n hn => tmB_bd (hY n hn) (h6 n hn) b2 b3 hx)⟩
        · rw [if_neg hpq, if_neg hpq]
          refine ⟨by decide, by decide, ?_⟩
          split
          · decide
          · omega
  obtain ⟨g1, g2, g3⟩ := hg
  unfold vUp vDn
  refine ⟨?_, by omega, by omega⟩
  have e1 : (1000 * (mi 2 2).toInt * gapV mi (bfV mi x m) (afV mi x m)).natAbs ≤ 1000 * 2000 * 200 := mul_bd (mul_bd (by decide) h7) (by omega)
  have e2 := mul_bd h8 g3
  have := Int.natAbs_sub_le (1000 * (mi 2 2).toInt * gapV mi (bfV mi x m) (afV mi x m)) ((mi 2 1).toInt * losV mi x.toInt (bfV mi x m) (afV mi x m))
  omega
/-- volts at train n's place -/
def vU (mi : Nat → Nat → Int32) (m n : Nat) : Int := vUp mi m (mi 41 n)
def vD (mi : Nat → Nat → Int32) (m n : Nat) : Int := vDn mi m (mi 41 n)
def hiA (mi : Nat → Nat → Int32) (m : Nat) : Nat → Option Nat
  | 0 => none
  | i + 1 => if cTh mi i = true ∧ cA mi i < 0 then (match hiA mi m i with
    | none => some i
    | some f => if vU mi m f * vD mi m i < vU mi m i * vD mi m f then some i else some f) else hiA mi m i
def thB (mi : Nat → Nat → Int32) (m : Nat) : Nat → Bool
  | 0 => false
  | i + 1 => thB mi m i || (cTh mi i && decide ((mi 2 3).toInt * vD mi m i < vU mi m i))
def hiM (mi : Nat → Nat → Int32) (ml : Nat → Nat → Int64) (m : Nat) : Nat → Nat → Nat → Int64
  | 0 => ml
  | i + 1 => if cTh mi i = true then (if cA mi i < 0 ∧ ¬ hiA mi m (i + 1) = hiA mi m i then shr (shr (hiM mi ml m i) 43 (Int64.ofInt (vU mi m i)) (Int64.ofInt (vD mi m i))) 44 (Int64.ofInt (vU mi m i)) (Int64.ofInt (vD mi m i)) else shr (hiM mi ml m i) 43 (Int64.ofInt (vU mi m i)) (Int64.ofInt (vD mi m i))) else hiM mi ml m i
theorem hiA_lt {mi : Nat → Nat → Int32} {m : Nat} : ∀ {i f : Nat}, hiA mi m i = some f → f < i ∧ cTh mi f = true ∧ cA mi f < 0 := by
  intro i
  induction i with
  | zero => intro f h; cases h
  | succ i ih =>
    intro f h
    rw [hiA] at h
    split at h
    · rename_i hc
      split at h
      · cases h; exact ⟨by omega, hc.1, hc.2⟩
      · rename_i g hg
        have := ih hg
        split at h
        · cases h; exact ⟨by omega, hc.1, hc.2⟩
        · cases h; exact ⟨by omega, this.2⟩
    · have := ih h; exact ⟨by omega, this.2⟩
theorem hiM_ne {mi : Nat → Nat → Int32} {ml : Nat → Nat → Int64} {m a b : Nat} (h : ¬ a = 43) (h2 : ¬ a = 44) : ∀ i, hiM mi ml m i a b = ml a b := by
  intro i
  induction i with
  | zero => rfl
  | succ i ih =>
    rw [hiM]
    split
    · split
      · rw [shr_ne h2, shr_ne h, ih]
      · rw [shr_ne h, ih]
    · exact ih
theorem hiM_44 {mi : Nat → Nat → Int32} {ml : Nat → Nat → Int64} {m : Nat} : ∀ {i f : Nat}, hiA mi m i = some f → hiM mi ml m i 44 0 = Int64.ofInt (vU mi m f) ∧ hiM mi ml m i 44 1 = Int64.ofInt (vD mi m f) := by
  intro i
  induction i with
  | zero => intro f h; cases h
  | succ i ih =>
    intro f h
    rw [hiM]
    by_cases hs : hiA mi m (i + 1) = hiA mi m i
    · rw [hs] at h
      have := ih h
      split
      · rw [if_neg (fun q => q.2 hs), shr_ne (by decide), shr_ne (by decide)]
        exact this
      · exact this
    · have hc : cTh mi i = true ∧ cA mi i < 0 := by
        rcases Decidable.em (cTh mi i = true ∧ cA mi i < 0) with q | q
        · exact q
        · exfalso; apply hs; rw [hiA, if_neg q]
      have hf : f = i := by
        have h' := h
        rw [hiA, if_pos hc] at h'
        split at h'
        · cases h'; rfl
        · rename_i g hg
          split at h'
          · cases h'; rfl
          · exfalso; apply hs; rw [h, hg, h']
      subst hf
      rw [if_pos hc.1, if_pos ⟨hc.2, hs⟩, shr_0, shr_1]
      exact ⟨rfl, rfl⟩
theorem CB_A0 {mi : Nat → Nat → Int32} {n : Nat} : (0 ≤ mi 42 n) = ¬ (cA mi n < 0) := by
  have h0 : (0 : Int32).toInt = 0 := rfl
  unfold cA
  rw [Int32.le_iff_toInt_le, h0]
  exact propext ⟨fun h => by omega, fun h => by omega⟩
section Cl10
variable {E : aE} {mi : Nat → Nat → Int32} {ml : Nat → Nat → Int64}
theorem ct_Circuit_highestIfAnyTooHigh {m : Nat} (hB : CB mi m) : ev E 53 (am_B 53 0) [.ref 34, am_dm, am_dm, am_dm] [] (HH mi ml) = some (some (.int (if gbm mi 5 = none then -1 else if thB mi m 5 = true then oI (hiA mi m 5) else -1)), HH mi (if gbm mi 5 = none then ml else hiM mi ml m 5)) := by
  obtain ⟨hm, hm5, hp, hso, hy, hA, hV, hR, hT⟩ := id hB
  simp only [b_53_e, b_53_9, b_53_32, b_53_76, b_53_80, b_53_81, b_53_109, b_53_132, b_53_138, b_53_146, b_53_147, e_aloadr_0, cc_Circuit_givingBackMost_0, cc_Circuit_givingBackMost_1, cc_Circuit_givingBackMost_2, cc_Circuit_givingBackMost_3, Option.toList_some, Option.toList_none, List.cons_append, List.nil_append, e_if_ge, k_m1, e_iret, e_istore_1, e_kpi, e_kpr, e_kpl, e_kpd, k_0, e_istore_2, e_istore_3, e_jsr, e_iload_3, k_5, e_icmp_ge, g_6_34, il_37, il_40, e_if_ne, e_goto, g_7_34, il_2, il_5, il_33, il_35, il_36, il_41, il_42, il_tp, il_ta, il_sc, il_po, ik_2_0, ik_2_1, ik_2_2, ik_2_3, ik_2_4, g_10_34, cc_Circuit_voltsAt_0, cc_Circuit_voltsAt_1, cc_Circuit_voltsAt_2, cc_Circuit_voltsAt_3, e_iload_2, g_256_27, g_256_28, g_256_30, g_256_31, g_256_32, g_256_43, g_256_44, g_256_46, g_256_49, g_256_60, gS_0, g_9_34, k_3, e_i2l, g_257_27, g_257_28, g_257_30, g_257_31, g_257_32, g_257_43, g_257_44, g_257_46, g_257_49, g_257_60, gS_1, e_lmul, e_lcmp, e_if_le, k_1, g_8_34, e_iload_1, e_if_lt, g_11_34, cc_Share_isBelow_0, cc_Share_isBelow_1, cc_Share_isBelow_2, cc_Share_isBelow_3, lay_27, lay_28, lay_30, lay_31, lay_32, lay_43, lay_44, lay_46, lay_49, lay_60, e_if_eq, cc_Share_become_0, cc_Share_become_1, cc_Share_become_2, cc_Share_become_3, e_iinc_3, eq_self]
  cases hgb : gbm mi 5 with
  | none => simp only [not_true_eq_false, not_false_eq_true, if_true, if_false, true_or, or_true, false_or, or_false, true_and, and_true, false_and, and_false, and_self, or_self, reduceIte, Bool.false_eq_true, i10, i01, oI_n, ge_n]
  | some f0 =>
    have hf0 : f0 < 5 := gbm_lt hgb
    simp only [not_true_eq_false, not_false_eq_true, if_true, if_false, true_or, or_true, false_or, or_false, true_and, and_true, false_and, and_false, and_self, or_self, reduceIte, Bool.false_eq_true, i10, i01, oI_s, ge_s hf0, reduceCtorEq]
    have hl := loop_up (fun i => ev E 53 (am_B 53 (Int.toNat 15)) [.ref 34, .int (oI (hiA mi m i)), .int (if thB mi m i = true then 1 else 0), .int (nI i)] [] (HH mi (hiM mi ml m i))) 0 5 (fun i _ hi => by
      refine hd b_53_15 ?_
      by_cases h1 : mi 40 i = 0
      · have hc : cTh mi i = false := by simp [cTh, h1]
        have e1 : hiA mi m (i + 1) = hiA mi m i := by rw [hiA, if_neg (by simp [hc])]
        have e2 : thB mi m (i + 1) = thB mi m i := by rw [thB]; simp [hc]
        have e3 : hiM mi ml m (i + 1) = hiM mi ml m i := by rw [hiM, if_neg (by simp [hc])]
        rw [e1, e2, e3]
        simp only [b_53_e, b_53_9, b_53_32, b_53_76, b_53_80, b_53_81, b_53_109, b_53_132, b_53_138, b_53_146, b_53_147, e_aloadr_0, cc_Circuit_givingBackMost_0, cc_Circuit_givingBackMost_1, cc_Circuit_givingBackMost_2, cc_Circuit_givingBackMost_3, Option.toList_some, Option.toList_none, List.cons_append, List.nil_append, e_if_ge, k_m1, e_iret, e_istore_1, e_kpi, e_kpr, e_kpl, e_kpd, k_0, e_istore_2, e_istore_3, e_jsr, e_iload_3, k_5, e_icmp_ge, g_6_34, il_37, il_40, e_if_ne, e_goto, g_7_34, il_2, il_5, il_33, il_35, il_36, il_41, il_42, il_tp, il_ta, il_sc, il_po, ik_2_0, ik_2_1, ik_2_2, ik_2_3, ik_2_4, g_10_34, cc_Circuit_voltsAt_0, cc_Circuit_voltsAt_1, cc_Circuit_voltsAt_2, cc_Circuit_voltsAt_3, e_iload_2, g_256_27, g_256_28, g_256_30, g_256_31, g_256_32, g_256_43, g_256_44, g_256_46, g_256_49, g_256_60, gS_0, g_9_34, k_3, e_i2l, g_257_27, g_257_28, g_257_30, g_257_31, g_257_32, g_257_43, g_257_44, g_257_46, g_257_49, g_257_60, gS_1, e_lmul, e_lcmp, e_if_le, k_1, g_8_34, e_iload_1, e_if_lt, g_11_34, cc_Share_isBelow_0, cc_Share_isBelow_1, cc_Share_isBelow_2, cc_Share_isBelow_3, lay_27, lay_28, lay_30, lay_31, lay_32, lay_43, lay_44, lay_46, lay_49, lay_60, e_if_eq, cc_Share_become_0, cc_Share_become_1, cc_Share_become_2, cc_Share_become_3, e_iinc_3, eq_self, le5 hi, hi, h1, not_true_eq_false, not_false_eq_true, if_true, if_false, true_or, or_true, false_or, or_false, true_and, and_true, false_and, and_false, and_self, or_self, reduceIte, Bool.false_eq_true, i10, i01, e_inc1]
      · have hc : cTh mi i = true := by simp [cTh, h1]
        have hyi := hy i hi hc
        have hvi := CB_v hB hyi
        have b0 : ∀ (mq : Nat → Nat → Int64) (k : Nat) u l, am_up (am_up mq k 0 u) k 1 l = shr mq k u l := fun _ _ _ _ => rfl
        have hu : vUp mi m (mi 41 i) = vU mi m i := rfl
        have hdn : vDn mi m (mi 41 i) = vD mi m i := rfl
        rw [hu, hdn] at hvi
        have hTop : (Int64.ofInt (vU mi m i) ≤ (mi 2 3).toInt64 * Int64.ofInt (vD mi m i)) = ¬ ((mi 2 3).toInt * vD mi m i < vU mi m i) := by
          rw [i64_of, ← Int64.ofInt_mul]
          have := mul_bd (A := 3000) (B := 200000) hT (b := vD mi m i) (by omega)
          rw [propext (i64_le (a := vU mi m i) (b := (mi 2 3).toInt * vD mi m i) (by omega) (by omega))]
          exact propext ⟨fun h => by omega, fun h => by omega⟩
        have eT : (if thB mi m i = true then (1 : Int32) else if (¬ ((mi 2 3).toInt * vD mi m i < vU mi m i)) then 0 else 1) = if thB mi m (i + 1) = true then 1 else 0 := by
          rw [thB]
          by_cases hs : thB mi m i = true
          · simp [hs]
          · by_cases h2 : (mi 2 3).toInt * vD mi m i < vU mi m i
            · simp [hs, hc, h2]
            · simp [hs, hc, h2]
        rw [← eT]
        by_cases h3 : cA mi i < 0
        · have e1 : hiA mi m (i + 1) = (match hiA mi m i with
            | none => some i
            | some f => if vU mi m f * vD mi m i < vU mi m i * vD mi m f then some i else some f) := by rw [hiA, if_pos ⟨hc, h3⟩]
          cases hf : hiA mi m i with
          | none =>
            rw [hf] at e1
            have e3 : hiM mi ml m (i + 1) = shr (shr (hiM mi ml m i) 43 (Int64.ofInt (vU mi m i)) (Int64.ofInt (vD mi m i))) 44 (Int64.ofInt (vU mi m i)) (Int64.ofInt (vD mi m i)) := by rw [hiM, if_pos hc, if_pos ⟨h3, by rw [e1, hf]; simp⟩]
            rw [e1, e3]
            by_cases hs : thB mi m i = true <;> by_cases h2 : (mi 2 3).toInt * vD mi m i < vU mi m i <;>
            simp only [b_53_e, b_53_9, b_53_32, b_53_76, b_53_80, b_53_81, b_53_109, b_53_132, b_53_138, b_53_146, b_53_147, e_aloadr_0, cc_Circuit_givingBackMost_0, cc_Circuit_givingBackMost_1, cc_Circuit_givingBackMost_2, cc_Circuit_givingBackMost_3, Option.toList_some, Option.toList_none, List.cons_append, List.nil_append, e_if_ge, k_m1, e_iret, e_istore_1, e_kpi, e_kpr, e_kpl, e_kpd, k_0, e_istore_2, e_istore_3, e_jsr, e_iload_3, k_5, e_icmp_ge, g_6_34, il_37, il_40, e_if_ne, e_goto, g_7_34, il_2, il_5, il_33, il_35, il_36, il_41, il_42, il_tp, il_ta, il_sc, il_po, ik_2_0, ik_2_1, ik_2_2, ik_2_3, ik_2_4, g_10_34, cc_Circuit_voltsAt_0, cc_Circuit_voltsAt_1, cc_Circuit_voltsAt_2, cc_Circuit_voltsAt_3, e_iload_2, g_256_27, g_256_28, g_256_30, g_256_31, g_256_32, g_256_43, g_256_44, g_256_46, g_256_49, g_256_60, gS_0, g_9_34, k_3, e_i2l, g_257_27, g_257_28, g_257_30, g_257_31, g_257_32, g_257_43, g_257_44, g_257_46, g_257_49, g_257_60, gS_1, e_lmul, e_lcmp, e_if_le, k_1, g_8_34, e_iload_1, e_if_lt, g_11_34, cc_Share_isBelow_0, cc_Share_isBelow_1, cc_Share_isBelow_2, cc_Share_isBelow_3, lay_27, lay_28, lay_30, lay_31, lay_32, lay_43, lay_44, lay_46, lay_49, lay_60, e_if_eq, cc_Share_become_0, cc_Share_become_1, cc_Share_become_2, cc_Share_become_3, e_iinc_3, eq_self, le5 hi, hi, h1, cc_Circuit_voltsAt_0 lay_43 hm hm5 hyi hp hy, b0, hu, hdn, shr_0, shr_1, hTop, hs, h2, bz1, CB_A0, h3, lg_cmp_le, oI_n, oI_s, lt_nN, cc_Share_become_0 lay_44, shr_ne (show ¬ 44 = 43 by decide), not_true_eq_false, not_false_eq_true, if_true, if_false, true_or, or_true, false_or, or_false, true_and, and_true, false_and, and_false, and_self, or_self, reduceIte, Bool.false_eq_true, i10, i01, e_inc1]
          | some f =>
            rw [hf] at e1
            dsimp only at e1
            have hfl := hiA_lt hf
            have hf5 : f < 5 := by omega
            have hvf := CB_v hB (hy f hf5 hfl.2.1)
            have hu2 : vUp mi m (mi 41 f) = vU mi m f := rfl
            have hdn2 : vDn mi m (mi 41 f) = vD mi m f := rfl
            rw [hu2, hdn2] at hvf
            obtain ⟨q0, q1⟩ := hiM_44 (ml := ml) hf
            have hcmp : (Int64.ofInt (vU mi m f) * Int64.ofInt (vD mi m i) < Int64.ofInt (vU mi m i) * Int64.ofInt (vD mi m f)) = (vU mi m f * vD mi m i < vU mi m i * vD mi m f) := by
              rw [← Int64.ofInt_mul, ← Int64.ofInt_mul]
              have m1 := mul_bd (A := 1000000000000) (B := 200000) hvf.1 (b := vD mi m i) (by omega)
              have m2 := mul_bd (A := 1000000000000) (B := 200000) hvi.1 (b := vD mi m f) (by omega)
              exact propext (i64_lt (by omega) (by omega))
            by_cases h4 : vU mi m f * vD mi m i < vU mi m i * vD mi m f
            · have hne : ¬ some i = some f := fun q => by cases q; omega
              rw [if_pos h4] at e1
              have e3 : hiM mi ml m (i + 1) = shr (shr (hiM mi ml m i) 43 (Int64.ofInt (vU mi m i)) (Int64.ofInt (vD mi m i))) 44 (Int64.ofInt (vU mi m i)) (Int64.ofInt (vD mi m i)) := by rw [hiM, if_pos hc, if_pos ⟨h3, by rw [e1, hf]; exact hne⟩]
              rw [e1, e3]
              by_cases hs : thB mi m i = true <;> by_cases h2 : (mi 2 3).toInt * vD mi m i < vU mi m i <;>
              simp only [b_53_e, b_53_9, b_53_32, b_53_76, b_53_80, b_53_81, b_53_109, b_53_132, b_53_138, b_53_146, b_53_147, e_aloadr_0, cc_Circuit_givingBackMost_0, cc_Circuit_givingBackMost_1, cc_Circuit_givingBackMost_2, cc_Circuit_givingBackMost_3, Option.toList_some, Option.toList_none, List.cons_append, List.nil_append, e_if_ge, k_m1, e_iret, e_istore_1, e_kpi, e_kpr, e_kpl, e_kpd, k_0, e_istore_2, e_istore_3, e_jsr, e_iload_3, k_5, e_icmp_ge, g_6_34, il_37, il_40, e_if_ne, e_goto, g_7_34, il_2, il_5, il_33, il_35, il_36, il_41, il_42, il_tp, il_ta, il_sc, il_po, ik_2_0, ik_2_1, ik_2_2, ik_2_3, ik_2_4, g_10_34, cc_Circuit_voltsAt_0, cc_Circuit_voltsAt_1, cc_Circuit_voltsAt_2, cc_Circuit_voltsAt_3, e_iload_2, g_256_27, g_256_28, g_256_30, g_256_31, g_256_32, g_256_43, g_256_44, g_256_46, g_256_49, g_256_60, gS_0, g_9_34, k_3, e_i2l, g_257_27, g_257_28, g_257_30, g_257_31, g_257_32, g_257_43, g_257_44, g_257_46, g_257_49, g_257_60, gS_1, e_lmul, e_lcmp, e_if_le, k_1, g_8_34, e_iload_1, e_if_lt, g_11_34, cc_Share_isBelow_0, cc_Share_isBelow_1, cc_Share_isBelow_2, cc_Share_isBelow_3, lay_27, lay_28, lay_30, lay_31, lay_32, lay_43, lay_44, lay_46, lay_49, lay_60, e_if_eq, cc_Share_become_0, cc_Share_become_1, cc_Share_become_2, cc_Share_become_3, e_iinc_3, eq_self, le5 hi, hi, h1, cc_Circuit_voltsAt_0 lay_43 hm hm5 hyi hp hy, b0, hu, hdn, shr_0, shr_1, hTop, hs, h2, bz1, bz0, CB_A0, h3, lg_cmp_le, oI_n, oI_s, lt_sN hf5, cc_Share_isBelow_0 lay_44 lay_43, q0, q1, hcmp, h4, cc_Share_become_0 lay_44, shr_ne (show ¬ 44 = 43 by decide), not_true_eq_false, not_false_eq_true, if_true, if_false, true_or, or_true, false_or, or_false, true_and, and_true, false_and, and_false, and_self, or_self, reduceIte, Bool.false_eq_true, i10, i01, e_inc1]
            · rw [if_neg h4] at e1
              have e3 : hiM mi ml m (i + 1) = shr (hiM mi ml m i) 43 (Int64.ofInt (vU mi m i)) (Int64.ofInt (vD mi m i)) := by rw [hiM, if_pos hc, if_neg (fun q => q.2 (by rw [e1, hf]))]
              rw [e1, e3]
              by_cases hs : thB mi m i = true <;> by_cases h2 : (mi 2 3).toInt * vD mi m i < vU mi m i <;>
              simp only [b_53_e, b_53_9, b_53_32, b_53_76, b_53_80, b_53_81, b_53_109, b_53_132, b_53_138, b_53_146, b_53_147, e_aloadr_0, cc_Circuit_givingBackMost_0, cc_Circuit_givingBackMost_1, cc_Circuit_givingBackMost_2, cc_Circuit_givingBackMost_3, Option.toList_some, Option.toList_none, List.cons_append, List.nil_append, e_if_ge, k_m1, e_iret, e_istore_1, e_kpi, e_kpr, e_kpl, e_kpd, k_0, e_istore_2, e_istore_3, e_jsr, e_iload_3, k_5, e_icmp_ge, g_6_34, il_37, il_40, e_if_ne, e_goto, g_7_34, il_2, il_5, il_33, il_35, il_36, il_41, il_42, il_tp, il_ta, il_sc, il_po, ik_2_0, ik_2_1, ik_2_2, ik_2_3, ik_2_4, g_10_34, cc_Circuit_voltsAt_0, cc_Circuit_voltsAt_1, cc_Circuit_voltsAt_2, cc_Circuit_voltsAt_3, e_iload_2, g_256_27, g_256_28, g_256_30, g_256_31, g_256_32, g_256_43, g_256_44, g_256_46, g_256_49, g_256_60, gS_0, g_9_34, k_3, e_i2l, g_257_27, g_257_28, g_257_30, g_257_31, g_257_32, g_257_43, g_257_44, g_257_46, g_257_49, g_257_60, gS_1, e_lmul, e_lcmp, e_if_le, k_1, g_8_34, e_iload_1, e_if_lt, g_11_34, cc_Share_isBelow_0, cc_Share_isBelow_1, cc_Share_isBelow_2, cc_Share_isBelow_3, lay_27, lay_28, lay_30, lay_31, lay_32, lay_43, lay_44, lay_46, lay_49, lay_60, e_if_eq, cc_Share_become_0, cc_Share_become_1, cc_Share_become_2, cc_Share_become_3, e_iinc_3, eq_self, le5 hi, hi, h1, cc_Circuit_voltsAt_0 lay_43 hm hm5 hyi hp hy, b0, hu, hdn, shr_0, shr_1, hTop, hs, h2, bz1, bz0, CB_A0, h3, lg_cmp_le, oI_n, oI_s, lt_sN hf5, cc_Share_isBelow_0 lay_44 lay_43, q0, q1, hcmp, h4, shr_ne (show ¬ 44 = 43 by decide), not_true_eq_false, not_false_eq_true, if_true, if_false, true_or, or_true, false_or, or_false, true_and, and_true, false_and, and_false, and_self, or_self, reduceIte, Bool.false_eq_true, i10, i01, e_inc1]
        · have e1 : hiA mi m (i + 1) = hiA mi m i := by rw [hiA, if_neg (fun q => h3 q.2)]
          have e3 : hiM mi ml m (i + 1) = shr (hiM mi ml m i) 43 (Int64.ofInt (vU mi m i)) (Int64.ofInt (vD mi m i)) := by rw [hiM, if_pos hc, if_neg (fun q => h3 q.1)]
          rw [e1, e3]
          by_cases hs : thB mi m i = true <;> by_cases h2 : (mi 2 3).toInt * vD mi m i < vU mi m i <;>
          simp only [b_53_e, b_53_9, b_53_32, b_53_76, b_53_80, b_53_81, b_53_109, b_53_132, b_53_138, b_53_146, b_53_147, e_aloadr_0, cc_Circuit_givingBackMost_0, cc_Circuit_givingBackMost_1, cc_Circuit_givingBackMost_2, cc_Circuit_givingBackMost_3, Option.toList_some, Option.toList_none, List.cons_append, List.nil_append, e_if_ge, k_m1, e_iret, e_istore_1, e_kpi, e_kpr, e_kpl, e_kpd, k_0, e_istore_2, e_istore_3, e_jsr, e_iload_3, k_5, e_icmp_ge, g_6_34, il_37, il_40, e_if_ne, e_goto, g_7_34, il_2, il_5, il_33, il_35, il_36, il_41, il_42, il_tp, il_ta, il_sc, il_po, ik_2_0, ik_2_1, ik_2_2, ik_2_3, ik_2_4, g_10_34, cc_Circuit_voltsAt_0, cc_Circuit_voltsAt_1, cc_Circuit_voltsAt_2, cc_Circuit_voltsAt_3, e_iload_2, g_256_27, g_256_28, g_256_30, g_256_31, g_256_32, g_256_43, g_256_44, g_256_46, g_256_49, g_256_60, gS_0, g_9_34, k_3, e_i2l, g_257_27, g_257_28, g_257_30, g_257_31, g_257_32, g_257_43, g_257_44, g_257_46, g_257_49, g_257_60, gS_1, e_lmul, e_lcmp, e_if_le, k_1, g_8_34, e_iload_1, e_if_lt, g_11_34, cc_Share_isBelow_0, cc_Share_isBelow_1, cc_Share_isBelow_2, cc_Share_isBelow_3, lay_27, lay_28, lay_30, lay_31, lay_32, lay_43, lay_44, lay_46, lay_49, lay_60, e_if_eq, cc_Share_become_0, cc_Share_become_1, cc_Share_become_2, cc_Share_become_3, e_iinc_3, eq_self, le5 hi, hi, h1, cc_Circuit_voltsAt_0 lay_43 hm hm5 hyi hp hy, b0, hu, hdn, shr_0, shr_1, hTop, hs, h2, bz1, CB_A0, h3, lg_cmp_le, not_true_eq_false, not_false_eq_true, if_true, if_false, true_or, or_true, false_or, or_false, true_and, and_true, false_and, and_false, and_self, or_self, reduceIte, Bool.false_eq_true, i10, i01, e_inc1]) (by decide)
    refine Eq.trans (show _ = _ from hl) ?_
    by_cases hs : thB mi m 5 = true
    · simp only [b_53_15, b_53_e, b_53_9, b_53_32, b_53_76, b_53_80, b_53_81, b_53_109, b_53_132, b_53_138, b_53_146, b_53_147, e_aloadr_0, cc_Circuit_givingBackMost_0, cc_Circuit_givingBackMost_1, cc_Circuit_givingBackMost_2, cc_Circuit_givingBackMost_3, Option.toList_some, Option.toList_none, List.cons_append, List.nil_append, e_if_ge, k_m1, e_iret, e_istore_1, e_kpi, e_kpr, e_kpl, e_kpd, k_0, e_istore_2, e_istore_3, e_jsr, e_iload_3, k_5, e_icmp_ge, g_6_34, il_37, il_40, e_if_ne, e_goto, g_7_34, il_2, il_5, il_33, il_35, il_36, il_41, il_42, il_tp, il_ta, il_sc, il_po, ik_2_0, ik_2_1, ik_2_2, ik_2_3, ik_2_4, g_10_34, cc_Circuit_voltsAt_0, cc_Circuit_voltsAt_1, cc_Circuit_voltsAt_2, cc_Circuit_voltsAt_3, e_iload_2, g_256_27, g_256_28, g_256_30, g_256_31, g_256_32, g_256_43, g_256_44, g_256_46, g_256_49, g_256_60, gS_0, g_9_34, k_3, e_i2l, g_257_27, g_257_28, g_257_30, g_257_31, g_257_32, g_257_43, g_257_44, g_257_46, g_257_49, g_257_60, gS_1, e_lmul, e_lcmp, e_if_le, k_1, g_8_34, e_iload_1, e_if_lt, g_11_34, cc_Share_isBelow_0, cc_Share_isBelow_1, cc_Share_isBelow_2, cc_Share_isBelow_3, lay_27, lay_28, lay_30, lay_31, lay_32, lay_43, lay_44, lay_46, lay_49, lay_60, e_if_eq, cc_Share_become_0, cc_Share_become_1, cc_Share_become_2, cc_Share_become_3, e_iinc_3, eq_self, le55, hs, not_true_eq_false, not_false_eq_true, if_true, if_false, true_or, or_true, false_or, or_false, true_and, and_true, false_and, and_false, and_self, or_self, reduceIte, Bool.false_eq_true, i10, i01]
    · simp only [b_53_15, b_53_e, b_53_9, b_53_32, b_53_76, b_53_80, b_53_81, b_53_109, b_53_132, b_53_138, b_53_146, b_53_147, e_aloadr_0, cc_Circuit_givingBackMost_0, cc_Circuit_givingBackMost_1, cc_Circuit_givingBackMost_2, cc_Circuit_givingBackMost_3, Option.toList_some, Option.toList_none, List.cons_append, List.nil_append, e_if_ge, k_m1, e_iret, e_istore_1, e_kpi, e_kpr, e_kpl, e_kpd, k_0, e_istore_2, e_istore_3, e_jsr, e_iload_3, k_5, e_icmp_ge, g_6_34, il_37, il_40, e_if_ne, e_goto, g_7_34, il_2, il_5, il_33, il_35, il_36, il_41, il_42, il_tp, il_ta, il_sc, il_po, ik_2_0, ik_2_1, ik_2_2, ik_2_3, ik_2_4, g_10_34, cc_Circuit_voltsAt_0, cc_Circuit_voltsAt_1, cc_Circuit_voltsAt_2, cc_Circuit_voltsAt_3, e_iload_2, g_256_27, g_256_28, g_256_30, g_256_31, g_256_32, g_256_43, g_256_44, g_256_46, g_256_49, g_256_60, gS_0, g_9_34, k_3, e_i2l, g_257_27, g_257_28, g_257_30, g_257_31, g_257_32, g_257_43, g_257_44, g_257_46, g_257_49, g_257_60, gS_1, e_lmul, e_lcmp, e_if_le, k_1, g_8_34, e_iload_1, e_if_lt, g_11_34, cc_Share_isBelow_0, cc_Share_isBelow_1, cc_Share_isBelow_2, cc_Share_isBelow_3, lay_27, lay_28, lay_30, lay_31, lay_32, lay_43, lay_44, lay_46, lay_49, lay_60, e_if_eq, cc_Share_become_0, cc_Share_become_1, cc_Share_become_2, cc_Share_become_3, e_iinc_3, eq_self, le55, hs, not_true_eq_false, not_false_eq_true, if_true, if_false, true_or, or_true, false_or, or_false, true_and, and_true, false_and, and_false, and_self, or_self, reduceIte, Bool.false_eq_true, i10, i01]
theorem cc_Circuit_highestIfAnyTooHigh_0 {M : Nat} {c : List Instr} {L : List Value} {m : Nat} (hB : CB mi m) : ev E M (.invokevirtual 53 :: c) L (.ref 34 :: []) (HH mi ml) = ev E M c L (.int (if gbm mi 5 = none then -1 else if thB mi m 5 = true then oI (hiA mi m 5) else -1) :: []) (HH mi (if gbm mi 5 = none then ml else hiM mi ml m 5)) := e_inv (as := [.ref 34]) (S := []) rfl rfl (Nat.le_of_ble_eq_true rfl) (rfl) (ct_Circuit_highestIfAnyTooHigh hB)
theorem cc_Circuit_highestIfAnyTooHigh_1 {M : Nat} {c : List Instr} {L : List Value} {s0 : Value} {m : Nat} (hB : CB mi m) : ev E M (.invokevirtual 53 :: c) L (.ref 34 :: [s0]) (HH mi ml) = ev E M c L (.int (if gbm mi 5 = none then -1 else if thB mi m 5 = true then oI (hiA mi m 5) else -1) :: [s0]) (HH mi (if gbm mi 5 = none then ml else hiM mi ml m 5)) := e_inv (as := [.ref 34]) (S := [s0]) rfl rfl (Nat.le_of_ble_eq_true rfl) (rfl) (ct_Circuit_highestIfAnyTooHigh hB)
theorem cc_Circuit_highestIfAnyTooHigh_2 {M : Nat} {c : List Instr} {L : List Value} {s0 s1 : Value} {m : Nat} (hB : CB mi m) : ev E M (.invokevirtual 53 :: c) L (.ref 34 :: [s0, s1]) (HH mi ml) = ev E M c L (.int (if gbm mi 5 = none then -1 else if thB mi m 5 = true then oI (hiA mi m 5) else -1) :: [s0, s1]) (HH mi (if gbm mi 5 = none then ml else hiM mi ml m 5)) := e_inv (as := [.ref 34]) (S := [s0, s1]) rfl rfl (Nat.le_of_ble_eq_true rfl) (rfl) (ct_Circuit_highestIfAnyTooHigh hB)
theorem cc_Circuit_highestIfAnyTooHigh_3 {M : Nat} {c : List Instr} {L : List Value} {s0 s1 s2 : Value} {m : Nat} (hB : CB mi m) : ev E M (.invokevirtual 53 :: c) L (.ref 34 :: [s0, s1, s2]) (HH mi ml) = ev E M c L (.int (if gbm mi 5 = none then -1 else if thB mi m 5 = true then oI (hiA mi m 5) else -1) :: [s0, s1, s2]) (HH mi (if gbm mi 5 = none then ml else hiM mi ml m 5)) := e_inv (as := [.ref 34]) (S := [s0, s1, s2]) rfl rfl (Nat.le_of_ble_eq_true rfl) (rfl) (ct_Circuit_highestIfAnyTooHigh hB)
end Cl10
