/-! SUMS OVER LOADS -/
theorem loop_upj {β γ : Type} (G : Nat → γ → β) (a n : Nat) (h : ∀ i v, a ≤ i → i < n → ∃ v', G i v = G (i + 1) v') (hn : a ≤ n) (v : γ) : ∃ v', G a v = G n v' := by
  obtain ⟨k, rfl⟩ : ∃ k, n = a + k := ⟨n - a, by omega⟩
  clear hn
  induction k with
  | zero => exact ⟨v, rfl⟩
  | succ k ih =>
    obtain ⟨v1, h1⟩ := ih (fun i v h1 h2 => h i v h1 (by omega))
    obtain ⟨v2, h2⟩ := h (a + k) v1 (by omega) (by omega)
    exact ⟨v2, h1.trans h2⟩
def bd (z : Int32) : Prop := 0 ≤ z.toInt ∧ z.toInt ≤ 200
theorem i32sub {x y : Int32} (hx : bd x) (hy : bd y) : (x - y).toInt = x.toInt - y.toInt := by
  unfold bd at hx hy
  rw [Int32.toInt_sub]
  exact Int.bmod_eq_of_le (by omega) (by omega)
theorem i32min {x y : Int32} : (if y < x then y else x).toInt = min x.toInt y.toInt := by
  simp only [Int32.lt_iff_toInt_lt]
  split <;> omega
theorem i32max {x y : Int32} : (if x < y then y else x).toInt = max x.toInt y.toInt := by
  simp only [Int32.lt_iff_toInt_lt]
  split <;> omega
theorem bdmin {x y : Int32} (hx : bd x) (hy : bd y) : bd (if y < x then y else x) := by split <;> assumption
theorem bdmax {x y : Int32} (hx : bd x) (hy : bd y) : bd (if x < y then y else x) := by split <;> assumption
theorem i32abs {z : Int32} (h : -1000 ≤ z.toInt ∧ z.toInt ≤ 1000) : (if 0 ≤ z then z else 0 - z).toInt = max z.toInt (-z.toInt) := by
  have h0 : (0 : Int32).toInt = 0 := rfl
  by_cases hz : 0 ≤ z
  · rw [if_pos hz]
    rw [Int32.le_iff_toInt_le, h0] at hz
    omega
  · rw [if_neg hz, Int32.toInt_sub, h0]
    rw [Int32.le_iff_toInt_le, h0] at hz
    rw [Int.bmod_eq_of_le (by omega) (by omega)]
    omega
def tmB (th : Bool) (y A a b x : Int) : Int := if th = true ∧ a < y ∧ y < b then A * (min x y - a) * (b - max x y) else 0
def tmY (th : Bool) (y A a x : Int) : Int := if th = true ∧ (a < y ↔ a < x) then A * min (max (x - a) (a - x)) (max (y - a) (a - y)) else 0
/-- the loads of the circuit's cells -/
def cTh (mi : Nat → Nat → Int32) (n : Nat) : Bool := decide (¬ mi 40 n = 0)
def cY (mi : Nat → Nat → Int32) (n : Nat) : Int := (mi 41 n).toInt
def cA (mi : Nat → Nat → Int32) (n : Nat) : Int := (mi 42 n).toInt
section Cl3
variable {E : aE} {mi : Nat → Nat → Int32} {ml : Nat → Nat → Int64}
theorem ct_Circuit_lostBetween {a b x : Int32} (ha : bd a) (hb : bd b) (hx : bd x) (hy : ∀ n, n < 5 → cTh mi n = true → bd (mi 41 n)) : ev E 56 (am_B 56 0) [.ref 34, .int a, .int b, .int x, am_dm, am_dm, am_dm, am_dm] [] (HH mi ml) = some (some (.long (Int64.ofInt (sumI (fun n => tmB (cTh mi n) (cY mi n) (cA mi n) a.toInt b.toInt x.toInt) 5))), HH mi ml) := by
  simp only [b_56_e, b_56_76, b_56_82, kl_0, e_lstore_4, e_kpi, e_kpr, e_kpl, e_kpd, k_0, e_istore_6, e_jsr, e_iload_6, k_5, e_icmp_ge, e_aloadr_0, g_7_34, il_2, il_5, il_33, il_35, il_36, il_41, il_42, il_tp, il_ta, il_sc, il_po, ik_2_0, ik_2_1, ik_2_2, ik_2_3, ik_2_4, e_istore_7, g_6_34, il_37, il_40, e_if_eq, e_iload_7, e_iload_1, e_icmp_le, e_iload_2, e_lload_4, g_8_34, e_i2l, e_iload_3, e_fsub_0, e_fsub_1, e_fsub_2, e_fsub_3, e_fsub_4, e_isub, e_lmul, e_fadd_0, e_fadd_1, e_fadd_2, e_fadd_3, e_fadd_4, e_ladd, e_iinc_6, e_goto, e_lret, eq_self]
  obtain ⟨v', hl⟩ := loop_upj (fun i v => ev E 56 (am_B 56 (Int.toNat 6)) [.ref 34, .int a, .int b, .int x, .long (Int64.ofInt (sumI (fun n => tmB (cTh mi n) (cY mi n) (cA mi n) a.toInt b.toInt x.toInt) i)), am_dm, .int (nI i), v] [] (HH mi ml)) 0 5 (fun i v _ hi => by
    refine ⟨.int (mi 41 i), hd b_56_6 ?_⟩
    simp only [b_56_e, b_56_76, b_56_82, kl_0, e_lstore_4, e_kpi, e_kpr, e_kpl, e_kpd, k_0, e_istore_6, e_jsr, e_iload_6, k_5, e_icmp_ge, e_aloadr_0, g_7_34, il_2, il_5, il_33, il_35, il_36, il_41, il_42, il_tp, il_ta, il_sc, il_po, ik_2_0, ik_2_1, ik_2_2, ik_2_3, ik_2_4, e_istore_7, g_6_34, il_37, il_40, e_if_eq, e_iload_7, e_iload_1, e_icmp_le, e_iload_2, e_lload_4, g_8_34, e_i2l, e_iload_3, e_fsub_0, e_fsub_1, e_fsub_2, e_fsub_3, e_fsub_4, e_isub, e_lmul, e_fadd_0, e_fadd_1, e_fadd_2, e_fadd_3, e_fadd_4, e_ladd, e_iinc_6, e_goto, e_lret, eq_self, hi, le5 hi, not_true_eq_false, not_false_eq_true, if_true, if_false, true_or, or_true, false_or, or_false, true_and, and_true, false_and, and_false, and_self, or_self, reduceIte, Bool.false_eq_true, i10, i01]
    have hs : sumI (fun n => tmB (cTh mi n) (cY mi n) (cA mi n) a.toInt b.toInt x.toInt) (i + 1) = sumI (fun n => tmB (cTh mi n) (cY mi n) (cA mi n) a.toInt b.toInt x.toInt) i + tmB (cTh mi i) (cY mi i) (cA mi i) a.toInt b.toInt x.toInt := rfl
    rw [hs]
    generalize sumI (fun n => tmB (cTh mi n) (cY mi n) (cA mi n) a.toInt b.toInt x.toInt) i = s0
    by_cases h1 : mi 40 i = 0
    · have ht : tmB (cTh mi i) (cY mi i) (cA mi i) a.toInt b.toInt x.toInt = 0 := by simp [tmB, cTh, h1]
      simp only [h1, not_true_eq_false, not_false_eq_true, if_true, if_false, true_or, or_true, false_or, or_false, true_and, and_true, false_and, and_false, and_self, or_self, reduceIte, Bool.false_eq_true, i10, i01, e_inc1, ht, Int.add_zero]
    · by_cases h2 : mi 41 i ≤ a
      · have ht : tmB (cTh mi i) (cY mi i) (cA mi i) a.toInt b.toInt x.toInt = 0 := by
          rw [Int32.le_iff_toInt_le] at h2
          unfold tmB cY
          rw [if_neg (by omega)]
        simp only [h1, h2, not_true_eq_false, not_false_eq_true, if_true, if_false, true_or, or_true, false_or, or_false, true_and, and_true, false_and, and_false, and_self, or_self, reduceIte, Bool.false_eq_true, i10, i01, e_inc1, ht, Int.add_zero]
      · by_cases h3 : b ≤ mi 41 i
        · have ht : tmB (cTh mi i) (cY mi i) (cA mi i) a.toInt b.toInt x.toInt = 0 := by
            rw [Int32.le_iff_toInt_le] at h3
            unfold tmB cY
            rw [if_neg (by omega)]
          simp only [h1, h2, h3, not_true_eq_false, not_false_eq_true, if_true, if_false, true_or, or_true, false_or, or_false, true_and, and_true, false_and, and_false, and_self, or_self, reduceIte, Bool.false_eq_true, i10, i01, e_inc1, ht, Int.add_zero]
        · have hc : cTh mi i = true := by simp [cTh, h1]
          have hyi := hy i hi hc
          have ht : tmB (cTh mi i) (cY mi i) (cA mi i) a.toInt b.toInt x.toInt = (mi 42 i).toInt * (min x.toInt (mi 41 i).toInt - a.toInt) * (b.toInt - max x.toInt (mi 41 i).toInt) := by
            rw [Int32.le_iff_toInt_le] at h2 h3
            unfold tmB cY cA
            rw [if_pos ⟨hc, by omega, by omega⟩]
          simp only [h1, h2, h3, not_true_eq_false, not_false_eq_true, if_true, if_false, true_or, or_true, false_or, or_false, true_and, and_true, false_and, and_false, and_self, or_self, reduceIte, Bool.false_eq_true, i10, i01, e_inc1, ht, Int64.ofInt_add, Int64.ofInt_mul, i64_of, i32sub (bdmin hx hyi) ha, i32sub hb (bdmax hx hyi), i32min, i32max]) (by decide) am_dm
  rw [k0nI, show (0 : Int64) = Int64.ofInt (sumI (fun n => tmB (cTh mi n) (cY mi n) (cA mi n) a.toInt b.toInt x.toInt) 0) from rfl, hl]
  simp only [b_56_6, b_56_e, b_56_76, b_56_82, kl_0, e_lstore_4, e_kpi, e_kpr, e_kpl, e_kpd, k_0, e_istore_6, e_jsr, e_iload_6, k_5, e_icmp_ge, e_aloadr_0, g_7_34, il_2, il_5, il_33, il_35, il_36, il_41, il_42, il_tp, il_ta, il_sc, il_po, ik_2_0, ik_2_1, ik_2_2, ik_2_3, ik_2_4, e_istore_7, g_6_34, il_37, il_40, e_if_eq, e_iload_7, e_iload_1, e_icmp_le, e_iload_2, e_lload_4, g_8_34, e_i2l, e_iload_3, e_fsub_0, e_fsub_1, e_fsub_2, e_fsub_3, e_fsub_4, e_isub, e_lmul, e_fadd_0, e_fadd_1, e_fadd_2, e_fadd_3, e_fadd_4, e_ladd, e_iinc_6, e_goto, e_lret, eq_self, le55, not_true_eq_false, not_false_eq_true, if_true, if_false, true_or, or_true, false_or, or_false, true_and, and_true, false_and, and_false, and_self, or_self, reduceIte, Bool.false_eq_true, i10, i01]
theorem cc_Circuit_lostBetween_0 {M : Nat} {c : List Instr} {L : List Value} {a b x : Int32} (ha : bd a) (hb : bd b) (hx : bd x) (hy : ∀ n, n < 5 → cTh mi n = true → bd (mi 41 n)) : ev E M (.invokevirtual 56 :: c) L (.int x :: .int b :: .int a :: .ref 34 :: []) (HH mi ml) = ev E M c L (.long (Int64.ofInt (sumI (fun n => tmB (cTh mi n) (cY mi n) (cA mi n) a.toInt b.toInt x.toInt) 5)) :: []) (HH mi ml) := e_inv (as := [.ref 34, .int a, .int b, .int x]) (S := []) rfl rfl (Nat.le_of_ble_eq_true rfl) (rfl) (ct_Circuit_lostBetween ha hb hx hy)
theorem cc_Circuit_lostBetween_1 {M : Nat} {c : List Instr} {L : List Value} {s0 : Value} {a b x : Int32} (ha : bd a) (hb : bd b) (hx : bd x) (hy : ∀ n, n < 5 → cTh mi n = true → bd (mi 41 n)) : ev E M (.invokevirtual 56 :: c) L (.int x :: .int b :: .int a :: .ref 34 :: [s0]) (HH mi ml) = ev E M c L (.long (Int64.ofInt (sumI (fun n => tmB (cTh mi n) (cY mi n) (cA mi n) a.toInt b.toInt x.toInt) 5)) :: [s0]) (HH mi ml) := e_inv (as := [.ref 34, .int a, .int b, .int x]) (S := [s0]) rfl rfl (Nat.le_of_ble_eq_true rfl) (rfl) (ct_Circuit_lostBetween ha hb hx hy)
theorem cc_Circuit_lostBetween_2 {M : Nat} {c : List Instr} {L : List Value} {s0 s1 : Value} {a b x : Int32} (ha : bd a) (hb : bd b) (hx : bd x) (hy : ∀ n, n < 5 → cTh mi n = true → bd (mi 41 n)) : ev E M (.invokevirtual 56 :: c) L (.int x :: .int b :: .int a :: .ref 34 :: [s0, s1]) (HH mi ml) = ev E M c L (.long (Int64.ofInt (sumI (fun n => tmB (cTh mi n) (cY mi n) (cA mi n) a.toInt b.toInt x.toInt) 5)) :: [s0, s1]) (HH mi ml) := e_inv (as := [.ref 34, .int a, .int b, .int x]) (S := [s0, s1]) rfl rfl (Nat.le_of_ble_eq_true rfl) (rfl) (ct_Circuit_lostBetween ha hb hx hy)
theorem cc_Circuit_lostBetween_3 {M : Nat} {c : List Instr} {L : List Value} {s0 s1 s2 : Value} {a b x : Int32} (ha : bd a) (hb : bd b) (hx : bd x) (hy : ∀ n, n < 5 → cTh mi n = true → bd (mi 41 n)) : ev E M (.invokevirtual 56 :: c) L (.int x :: .int b :: .int a :: .ref 34 :: [s0, s1, s2]) (HH mi ml) = ev E M c L (.long (Int64.ofInt (sumI (fun n => tmB (cTh mi n) (cY mi n) (cA mi n) a.toInt b.toInt x.toInt) 5)) :: [s0, s1, s2]) (HH mi ml) := e_inv (as := [.ref 34, .int a, .int b, .int x]) (S := [s0, s1, s2]) rfl rfl (Nat.le_of_ble_eq_true rfl) (rfl) (ct_Circuit_lostBetween ha hb hx hy)
theorem ct_Circuit_lostBeyond {a x : Int32} (ha : bd a) (hx : bd x) (hy : ∀ n, n < 5 → cTh mi n = true → bd (mi 41 n)) : ev E 57 (am_B 57 0) [.ref 34, .int a, .int x, am_dm, am_dm, am_dm, am_dm] [] (HH mi ml) = some (some (.long (Int64.ofInt (sumI (fun n => tmY (cTh mi n) (cY mi n) (cA mi n) a.toInt x.toInt) 5))), HH mi ml) := by
  simp only [b_57_e, b_57_40, b_57_41, b_57_50, b_57_51, b_57_83, b_57_89, kl_0, e_lstore_3, e_kpi, e_kpr, e_kpl, e_kpd, k_0, e_istore_5, e_jsr, e_iload_5, k_5, e_icmp_ge, e_aloadr_0, g_7_34, il_2, il_5, il_33, il_35, il_36, il_41, il_42, il_tp, il_ta, il_sc, il_po, ik_2_0, ik_2_1, ik_2_2, ik_2_3, ik_2_4, e_istore_6, g_6_34, il_37, il_40, e_if_eq, e_iload_6, e_iload_1, e_icmp_le, k_1, e_goto, e_iload_2, e_icmp_ne, e_lload_3, g_8_34, e_i2l, e_isub, e_fmul_0, e_fmul_1, e_fmul_2, e_fmul_3, e_fmul_4, e_fsub_0, e_fsub_1, e_fsub_2, e_fsub_3, e_fsub_4, e_lmul, e_ladd, e_iinc_5, e_lret, eq_self]
  obtain ⟨v', hl⟩ := loop_upj (fun i v => ev E 57 (am_B 57 (Int.toNat 5)) [.ref 34, .int a, .int x, .long (Int64.ofInt (sumI (fun n => tmY (cTh mi n) (cY mi n) (cA mi n) a.toInt x.toInt) i)), am_dm, .int (nI i), v] [] (HH mi ml)) 0 5 (fun i v _ hi => by
    refine ⟨.int (mi 41 i), hd b_57_5 ?_⟩
    simp only [b_57_e, b_57_40, b_57_41, b_57_50, b_57_51, b_57_83, b_57_89, kl_0, e_lstore_3, e_kpi, e_kpr, e_kpl, e_kpd, k_0, e_istore_5, e_jsr, e_iload_5, k_5, e_icmp_ge, e_aloadr_0, g_7_34, il_2, il_5, il_33, il_35, il_36, il_41, il_42, il_tp, il_ta, il_sc, il_po, ik_2_0, ik_2_1, ik_2_2, ik_2_3, ik_2_4, e_istore_6, g_6_34, il_37, il_40, e_if_eq, e_iload_6, e_iload_1, e_icmp_le, k_1, e_goto, e_iload_2, e_icmp_ne, e_lload_3, g_8_34, e_i2l, e_isub, e_fmul_0, e_fmul_1, e_fmul_2, e_fmul_3, e_fmul_4, e_fsub_0, e_fsub_1, e_fsub_2, e_fsub_3, e_fsub_4, e_lmul, e_ladd, e_iinc_5, e_lret, eq_self, hi, le5 hi, not_true_eq_false, not_false_eq_true, if_true, if_false, true_or, or_true, false_or, or_false, true_and, and_true, false_and, and_false, and_self, or_self, reduceIte, Bool.false_eq_true, i10, i01]
    have hs : sumI (fun n => tmY (cTh mi n) (cY mi n) (cA mi n) a.toInt x.toInt) (i + 1) = sumI (fun n => tmY (cTh mi n) (cY mi n) (cA mi n) a.toInt x.toInt) i + tmY (cTh mi i) (cY mi i) (cA mi i) a.toInt x.toInt := rfl
    rw [hs]
    generalize sumI (fun n => tmY (cTh mi n) (cY mi n) (cA mi n) a.toInt x.toInt) i = s0
    by_cases h1 : mi 40 i = 0
    · have ht : tmY (cTh mi i) (cY mi i) (cA mi i) a.toInt x.toInt = 0 := by simp [tmY, cTh, h1]
      simp only [h1, not_true_eq_false, not_false_eq_true, if_true, if_false, true_or, or_true, false_or, or_false, true_and, and_true, false_and, and_false, and_self, or_self, reduceIte, Bool.false_eq_true, i10, i01, e_inc1, ht, Int.add_zero]
    · have hc : cTh mi i = true := by simp [cTh, h1]
      have hyi := hy i hi hc
      have hxa : -1000 ≤ (x - a).toInt ∧ (x - a).toInt ≤ 1000 := by rw [i32sub hx ha]; unfold bd at hx ha; omega
      have hya : -1000 ≤ (mi 41 i - a).toInt ∧ (mi 41 i - a).toInt ≤ 1000 := by rw [i32sub hyi ha]; unfold bd at hyi ha; omega
      have key : (mi 41 i ≤ a ↔ x ≤ a) → tmY (cTh mi i) (cY mi i) (cA mi i) a.toInt x.toInt = (mi 42 i).toInt * min (max (x - a).toInt (-(x - a).toInt)) (max (mi 41 i - a).toInt (-(mi 41 i - a).toInt)) := by
        intro hq
        rw [Int32.le_iff_toInt_le, Int32.le_iff_toInt_le] at hq
        unfold tmY cY cA
        rw [if_pos ⟨hc, by omega⟩, i32sub hx ha, i32sub hyi ha]
        congr 2
        · omega
        · omega
      have key0 : ¬ (mi 41 i ≤ a ↔ x ≤ a) → tmY (cTh mi i) (cY mi i) (cA mi i) a.toInt x.toInt = 0 := by
        intro hq
        rw [Int32.le_iff_toInt_le, Int32.le_iff_toInt_le] at hq
        unfold tmY cY cA
        rw [if_neg (by omega)]
      by_cases h2 : mi 41 i ≤ a <;> by_cases h3 : x ≤ a
      · simp only [h1, h2, h3, not_true_eq_false, not_false_eq_true, if_true, if_false, true_or, or_true, false_or, or_false, true_and, and_true, false_and, and_false, and_self, or_self, reduceIte, Bool.false_eq_true, i10, i01, e_inc1, key (by simp [h2, h3]), Int64.ofInt_add, Int64.ofInt_mul, i64_of, i32min, i32abs hxa, i32abs hya]
      · simp only [h1, h2, h3, not_true_eq_false, not_false_eq_true, if_true, if_false, true_or, or_true, false_or, or_false, true_and, and_true, false_and, and_false, and_self, or_self, reduceIte, Bool.false_eq_true, i10, i01, e_inc1, key0 (by simp [h2, h3]), Int.add_zero, show ¬ ((0 : Int32) = 1) by decide]
      · simp only [h1, h2, h3, not_true_eq_false, not_false_eq_true, if_true, if_false, true_or, or_true, false_or, or_false, true_and, and_true, false_and, and_false, and_self, or_self, reduceIte, Bool.false_eq_true, i10, i01, e_inc1, key0 (by simp [h2, h3]), Int.add_zero, show ¬ ((1 : Int32) = 0) by decide]
      · simp only [h1, h2, h3, not_true_eq_false, not_false_eq_true, if_true, if_false, true_or, or_true, false_or, or_false, true_and, and_true, false_and, and_false, and_self, or_self, reduceIte, Bool.false_eq_true, i10, i01, e_inc1, key (by simp [h2, h3]), Int64.ofInt_add, Int64.ofInt_mul, i64_of, i32min, i32abs hxa, i32abs hya]) (by decide) am_dm
  rw [k0nI, show (0 : Int64) = Int64.ofInt (sumI (fun n => tmY (cTh mi n) (cY mi n) (cA mi n) a.toInt x.toInt) 0) from rfl, hl]
  simp only [b_57_5, b_57_e, b_57_40, b_57_41, b_57_50, b_57_51, b_57_83, b_57_89, kl_0, e_lstore_3, e_kpi, e_kpr, e_kpl, e_kpd, k_0, e_istore_5, e_jsr, e_iload_5, k_5, e_icmp_ge, e_aloadr_0, g_7_34, il_2, il_5, il_33, il_35, il_36, il_41, il_42, il_tp, il_ta, il_sc, il_po, ik_2_0, ik_2_1, ik_2_2, ik_2_3, ik_2_4, e_istore_6, g_6_34, il_37, il_40, e_if_eq, e_iload_6, e_iload_1, e_icmp_le, k_1, e_goto, e_iload_2, e_icmp_ne, e_lload_3, g_8_34, e_i2l, e_isub, e_fmul_0, e_fmul_1, e_fmul_2, e_fmul_3, e_fmul_4, e_fsub_0, e_fsub_1, e_fsub_2, e_fsub_3, e_fsub_4, e_lmul, e_ladd, e_iinc_5, e_lret, eq_self, le55, not_true_eq_false, not_false_eq_true, if_true, if_false, true_or, or_true, false_or, or_false, true_and, and_true, false_and, and_false, and_self, or_self, reduceIte, Bool.false_eq_true, i10, i01]
theorem cc_Circuit_lostBeyond_0 {M : Nat} {c : List Instr} {L : List Value} {a x : Int32} (ha : bd a) (hx : bd x) (hy : ∀ n, n < 5 → cTh mi n = true → bd (mi 41 n)) : ev E M (.invokevirtual 57 :: c) L (.int x :: .int a :: .ref 34 :: []) (HH mi ml) = ev E M c L (.long (Int64.ofInt (sumI (fun n => tmY (cTh mi n) (cY mi n) (cA mi n) a.toInt x.toInt) 5)) :: []) (HH mi ml) := e_inv (as := [.ref 34, .int a, .int x]) (S := []) rfl rfl (Nat.le_of_ble_eq_true rfl) (rfl) (ct_Circuit_lostBeyond ha hx hy)
theorem cc_Circuit_lostBeyond_1 {M : Nat} {c : List Instr} {L : List Value} {s0 : Value} {a x : Int32} (ha : bd a) (hx : bd x) (hy : ∀ n, n < 5 → cTh mi n = true → bd (mi 41 n)) : ev E M (.invokevirtual 57 :: c) L (.int x :: .int a :: .ref 34 :: [s0]) (HH mi ml) = ev E M c L (.long (Int64.ofInt (sumI (fun n => tmY (cTh mi n) (cY mi n) (cA mi n) a.toInt x.toInt) 5)) :: [s0]) (HH mi ml) := e_inv (as := [.ref 34, .int a, .int x]) (S := [s0]) rfl rfl (Nat.le_of_ble_eq_true rfl) (rfl) (ct_Circuit_lostBeyond ha hx hy)
theorem cc_Circuit_lostBeyond_2 {M : Nat} {c : List Instr} {L : List Value} {s0 s1 : Value} {a x : Int32} (ha : bd a) (hx : bd x) (hy : ∀ n, n < 5 → cTh mi n = true → bd (mi 41 n)) : ev E M (.invokevirtual 57 :: c) L (.int x :: .int a :: .ref 34 :: [s0, s1]) (HH mi ml) = ev E M c L (.long (Int64.ofInt (sumI (fun n => tmY (cTh mi n) (cY mi n) (cA mi n) a.toInt x.toInt) 5)) :: [s0, s1]) (HH mi ml) := e_inv (as := [.ref 34, .int a, .int x]) (S := [s0, s1]) rfl rfl (Nat.le_of_ble_eq_true rfl) (rfl) (ct_Circuit_lostBeyond ha hx hy)
theorem cc_Circuit_lostBeyond_3 {M : Nat} {c : List Instr} {L : List Value} {s0 s1 s2 : Value} {a x : Int32} (ha : bd a) (hx : bd x) (hy : ∀ n, n < 5 → cTh mi n = true → bd (mi 41 n)) : ev E M (.invokevirtual 57 :: c) L (.int x :: .int a :: .ref 34 :: [s0, s1, s2]) (HH mi ml) = ev E M c L (.long (Int64.ofInt (sumI (fun n => tmY (cTh mi n) (cY mi n) (cA mi n) a.toInt x.toInt) 5)) :: [s0, s1, s2]) (HH mi ml) := e_inv (as := [.ref 34, .int a, .int x]) (S := [s0, s1, s2]) rfl rfl (Nat.le_of_ble_eq_true rfl) (rfl) (ct_Circuit_lostBeyond ha hx hy)
end Cl3
