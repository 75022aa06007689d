/-! THE REFERENCE'S findGiven -/
def tW (y A a : Int) (l r : Option Int) : Int := if y = a ∨ (y < a ∧ l = none) ∨ (a < y ∧ r = none) then A else 0
def tF (y A a : Int) (l : Option Int) : Int := match l with
  | some p => if y < a ∧ p < y then A * (y - p) else 0
  | none => 0
def tS (y A a : Int) (r : Option Int) : Int := match r with
  | some q => if a < y ∧ y < q then A * (q - y) else 0
  | none => 0
theorem tWFS {y A a : Int} {l r : Option Int} : tW y A a l r * lef a l * rig a r + tF y A a l * rig a r + tS y A a r * lef a l = wT true y A a l r := by
  unfold wT tW
  rw [if_pos rfl]
  by_cases h1 : y < a
  · rw [if_pos h1]
    have hS : tS y A a r = 0 := by unfold tS; cases r with
      | none => rfl
      | some q => dsimp only; rw [if_neg (by omega)]
    rw [hS]
    cases l with
    | none =>
      rw [if_pos (Or.inr (Or.inl ⟨h1, rfl⟩))]
      show A * 1 * rig a r + 0 * rig a r + 0 * 1 = A * rig a r * 1
      simp
    | some p =>
      rw [if_neg (by simp; omega)]
      show 0 * lef a (some p) * rig a r + (if y < a ∧ p < y then A * (y - p) else 0) * rig a r + 0 * lef a (some p) = A * rig a r * max 0 (y - p)
      by_cases h2 : p < y
      · rw [if_pos ⟨h1, h2⟩, show max 0 (y - p) = y - p by omega]
        grind
      · rw [if_neg (by omega), show max 0 (y - p) = 0 by omega]
        grind
  · rw [if_neg h1]
    have hF : tF y A a l = 0 := by unfold tF; cases l with
      | none => rfl
      | some q => dsimp only; rw [if_neg (by omega)]
    rw [hF]
    by_cases h3 : a < y
    · rw [if_pos h3]
      cases r with
      | none =>
        rw [if_pos (Or.inr (Or.inr ⟨h3, rfl⟩))]
        show A * lef a l * 1 + 0 * 1 + 0 * lef a l = A * lef a l * 1
        simp
      | some q =>
        rw [if_neg (by simp; omega)]
        show 0 * lef a l * rig a (some q) + 0 * rig a (some q) + (if a < y ∧ y < q then A * (q - y) else 0) * lef a l = A * lef a l * max 0 (q - y)
        by_cases h2 : y < q
        · rw [if_pos ⟨h3, h2⟩, show max 0 (q - y) = q - y by omega]
          grind
        · rw [if_neg (by omega), show max 0 (q - y) = 0 by omega]
          grind
    · rw [if_neg h3, if_pos (Or.inl (by omega))]
      have hS : tS y A a r = 0 := by unfold tS; cases r with
        | none => rfl
        | some q => dsimp only; rw [if_neg (by omega)]
      rw [hS]
      grind
theorem sum3 {f g h w : Nat → Int} {u v : Int} (e : ∀ k, f k * u * v + g k * v + h k * u = w k) : ∀ K, sumI f K * u * v + sumI g K * v + sumI h K * u = sumI w K := by
  intro K
  induction K with
  | zero => simp [sumI]
  | succ K ih =>
    simp only [sumI]
    rw [← ih, ← e K]
    grind
theorem i32neg {x y : Int32} (hx : bd x) (hy : bd y) : (-(x - y)).toInt = y.toInt - x.toInt := by
  have h := i32sub hx hy
  unfold bd at hx hy
  rw [Int32.toInt_neg, h]
  rw [Int.bmod_eq_of_le (by omega) (by omega)]
  omega
section Fg
variable {E : aE} {mi : Nat → Nat → Int32} {ml : Nat → Nat → Int64}
theorem fg_loop {K s : Nat} {set a : Int32} {L R : Option Nat} (hK : mi 61 15 = nI K) (hK5 : K ≤ 5) (ha : bd a) (hL : ∀ p, L = some p → p < 6 ∧ bd (mi 64 p)) (hR : ∀ p, R = some p → p < 6 ∧ bd (mi 64 p)) (hy : ∀ k, k < K → bd (mi 73 k)) : ∃ v13 v14 v15 v16 : Value, ev E 146 (am_B 146 (Int.toNat 50)) [.ref 61, .int set, .int (nI s), .int a, .int (oM L), .int (oM R), .long 0, am_dm, .long 0, am_dm, .long 0, am_dm, .int 0, am_dm, am_dm, am_dm, am_dm] [] (HH mi ml) = ev E 146 (am_B 146 (Int.toNat 50)) [.ref 61, .int set, .int (nI s), .int a, .int (oM L), .int (oM R), .long (Int64.ofInt (sumI (fun k => tW (mY mi k) (mA mi k) a.toInt (L.map (mP mi)) (R.map (mP mi))) K)), am_dm, .long (Int64.ofInt (sumI (fun k => tF (mY mi k) (mA mi k) a.toInt (L.map (mP mi))) K)), am_dm, .long (Int64.ofInt (sumI (fun k => tS (mY mi k) (mA mi k) a.toInt (R.map (mP mi))) K)), am_dm, .int (nI K), v13, v14, v15, v16] [] (HH mi ml) := by
  obtain ⟨v', hl⟩ := loop_upj (fun i (v : Value × Value × Value × Value) => ev E 146 (am_B 146 (Int.toNat 50)) [.ref 61, .int set, .int (nI s), .int a, .int (oM L), .int (oM R), .long (Int64.ofInt (sumI (fun k => tW (mY mi k) (mA mi k) a.toInt (L.map (mP mi)) (R.map (mP mi))) i)), am_dm, .long (Int64.ofInt (sumI (fun k => tF (mY mi k) (mA mi k) a.toInt (L.map (mP mi))) i)), am_dm, .long (Int64.ofInt (sumI (fun k => tS (mY mi k) (mA mi k) a.toInt (R.map (mP mi))) i)), am_dm, .int (nI i), v.1, v.2.1, v.2.2.1, v.2.2.2] [] (HH mi ml)) 0 K (fun i v _ hi => by
    have hi5 : i < 5 := by omega
    have hyi := hy i hi
    have eY : mY mi i = (mi 73 i).toInt := rfl
    have eA : mA mi i = (mi 74 i).toInt := rfl
    have zF : ¬ (mi 73 i).toInt < a.toInt → tF (mY mi i) (mA mi i) a.toInt (L.map (mP mi)) = 0 := by
      intro q; unfold tF; split
      · rw [if_neg (by omega)]
      · rfl
    have zS : ¬ a.toInt < (mi 73 i).toInt → tS (mY mi i) (mA mi i) a.toInt (R.map (mP mi)) = 0 := by
      intro q; unfold tS; split
      · rw [if_neg (by omega)]
      · rfl
    by_cases h1 : a ≤ mi 73 i
    · have h1' := h1
      rw [Int32.le_iff_toInt_le] at h1'
      by_cases h2 : mi 73 i = a
      · have h2' : (mi 73 i).toInt = a.toInt := by rw [h2]
        refine ⟨(.int (mi 73 i), .int (oM R), v.2.2.1, v.2.2.2), hd b_146_50 ?_⟩
        have tw : tW (mY mi i) (mA mi i) a.toInt (L.map (mP mi)) (R.map (mP mi)) = (mi 74 i).toInt := by unfold tW; rw [if_pos (Or.inl (by omega))]; rfl
        simp only [b_146_e, b_146_16, b_146_25, b_146_79, b_146_81, b_146_96, b_146_112, b_146_138, b_146_142, b_146_153, b_146_154, b_146_193, b_146_221, b_146_227, b_146_238, b_146_248, b_146_261, b_146_271, e_aloadr_0, g_581_61, e_iload_2, il_62, il_63, il_64, il_66, il_67, il_68, il_69, il_70, il_71, il_72, il_73, il_74, il_75, il_76, il_77, ik_62_0, ik_62_1, ik_62_2, ik_62_3, ik_62_4, ik_73_0, ik_74_0, e_istore_3, e_kpi, e_kpr, e_kpl, e_kpd, e_iload_3, e_if_ne, k_m9, e_goto, e_iload_1, k_1, e_isub, cc_M_neighbourL_0, cc_M_neighbourR_0, cc_M_neighbourL_1, cc_M_neighbourR_1, cc_M_neighbourL_2, cc_M_neighbourR_2, cc_M_neighbourL_3, cc_M_neighbourR_3, Option.toList_some, Option.toList_none, List.cons_append, List.nil_append, e_jsr, e_istore_4, e_iadd, k_0, e_istore_5, kl_0, e_lstore_6, e_lstore_8, e_lstore_10, e_istore_12, e_iload_12, g_591_61, e_icmp_ge, g_592_61, e_istore_13, e_iload_13, e_iload_4, e_iload_5, e_istore_14, e_icmp_eq, e_iload_14, e_icmp_ne, e_lload_6, g_593_61, e_i2l, e_ladd, e_istore_15, e_iload_15, e_icmp_le, e_istore_16, e_iload_16, e_if_eq, e_lload_8, cc_M_size_0, cc_M_size_1, cc_M_size_2, cc_M_size_3, e_lmul, e_lload_10, e_iinc_12, kl_1, e_lstore_12, e_lstore_14, e_lload_12, e_lload_14, p_595_61, p_596_61, e_ret, eq_self, hK, lec (show K < 1000 by omega) hi, hi5, h1, eq_true h2, sumI, tw, zF (by omega), zS (by omega), Int.add_zero, Int64.ofInt_add, ← i64_of, not_true_eq_false, not_false_eq_true, if_true, if_false, true_or, or_true, false_or, or_false, true_and, and_true, false_and, and_false, and_self, or_self, reduceIte, Bool.false_eq_true, i10, i01, e_inc1]
      · have h3 : a.toInt < (mi 73 i).toInt := by
          have : (mi 73 i).toInt ≠ a.toInt := fun q => h2 (Int32.toInt_inj.mp q)
          omega
        cases hRc : R with
        | none =>
          refine ⟨(.int (mi 73 i), .int (-9), v.2.2.1, v.2.2.2), hd b_146_50 ?_⟩
          have tw : tW (mY mi i) (mA mi i) a.toInt (L.map (mP mi)) (Option.map (mP mi) none) = (mi 74 i).toInt := by unfold tW; rw [if_pos (Or.inr (Or.inr ⟨by omega, rfl⟩))]; rfl
          have zS' : tS (mY mi i) (mA mi i) a.toInt (Option.map (mP mi) none) = 0 := rfl
          simp only [b_146_e, b_146_16, b_146_25, b_146_79, b_146_81, b_146_96, b_146_112, b_146_138, b_146_142, b_146_153, b_146_154, b_146_193, b_146_221, b_146_227, b_146_238, b_146_248, b_146_261, b_146_271, e_aloadr_0, g_581_61, e_iload_2, il_62, il_63, il_64, il_66, il_67, il_68, il_69, il_70, il_71, il_72, il_73, il_74, il_75, il_76, il_77, ik_62_0, ik_62_1, ik_62_2, ik_62_3, ik_62_4, ik_73_0, ik_74_0, e_istore_3, e_kpi, e_kpr, e_kpl, e_kpd, e_iload_3, e_if_ne, k_m9, e_goto, e_iload_1, k_1, e_isub, cc_M_neighbourL_0, cc_M_neighbourR_0, cc_M_neighbourL_1, cc_M_neighbourR_1, cc_M_neighbourL_2, cc_M_neighbourR_2, cc_M_neighbourL_3, cc_M_neighbourR_3, Option.toList_some, Option.toList_none, List.cons_append, List.nil_append, e_jsr, e_istore_4, e_iadd, k_0, e_istore_5, kl_0, e_lstore_6, e_lstore_8, e_lstore_10, e_istore_12, e_iload_12, g_591_61, e_icmp_ge, g_592_61, e_istore_13, e_iload_13, e_iload_4, e_iload_5, e_istore_14, e_icmp_eq, e_iload_14, e_icmp_ne, e_lload_6, g_593_61, e_i2l, e_ladd, e_istore_15, e_iload_15, e_icmp_le, e_istore_16, e_iload_16, e_if_eq, e_lload_8, cc_M_size_0, cc_M_size_1, cc_M_size_2, cc_M_size_3, e_lmul, e_lload_10, e_iinc_12, kl_1, e_lstore_12, e_lstore_14, e_lload_12, e_lload_14, p_595_61, p_596_61, e_ret, eq_self, hK, lec (show K < 1000 by omega) hi, hi5, h1, h2, oM_n, sumI, tw, zF (by omega), zS', Int.add_zero, Int64.ofInt_add, ← i64_of, not_true_eq_false, not_false_eq_true, if_true, if_false, true_or, or_true, false_or, or_false, true_and, and_true, false_and, and_false, and_self, or_self, reduceIte, Bool.false_eq_true, i10, i01, e_inc1]
        | some q =>
          obtain ⟨hq6, hqb⟩ := hR q hRc
          have tw : tW (mY mi i) (mA mi i) a.toInt (L.map (mP mi)) (Option.map (mP mi) (some q)) = 0 := by unfold tW; rw [if_neg (by simp; omega)]
          by_cases h4 : mi 64 q ≤ mi 73 i
          · refine ⟨(.int (mi 73 i), .int (nI q), .int (mi 64 q), .int 0), hd b_146_50 ?_⟩
            have h4' := h4
            rw [Int32.le_iff_toInt_le] at h4'
            have zS' : tS (mY mi i) (mA mi i) a.toInt (Option.map (mP mi) (some q)) = 0 := by
              show (if a.toInt < mY mi i ∧ mY mi i < mP mi q then _ else 0) = 0
              rw [if_neg (by unfold mP; omega)]
            simp only [b_146_e, b_146_16, b_146_25, b_146_79, b_146_81, b_146_96, b_146_112, b_146_138, b_146_142, b_146_153, b_146_154, b_146_193, b_146_221, b_146_227, b_146_238, b_146_248, b_146_261, b_146_271, e_aloadr_0, g_581_61, e_iload_2, il_62, il_63, il_64, il_66, il_67, il_68, il_69, il_70, il_71, il_72, il_73, il_74, il_75, il_76, il_77, ik_62_0, ik_62_1, ik_62_2, ik_62_3, ik_62_4, ik_73_0, ik_74_0, e_istore_3, e_kpi, e_kpr, e_kpl, e_kpd, e_iload_3, e_if_ne, k_m9, e_goto, e_iload_1, k_1, e_isub, cc_M_neighbourL_0, cc_M_neighbourR_0, cc_M_neighbourL_1, cc_M_neighbourR_1, cc_M_neighbourL_2, cc_M_neighbourR_2, cc_M_neighbourL_3, cc_M_neighbourR_3, Option.toList_some, Option.toList_none, List.cons_append, List.nil_append, e_jsr, e_istore_4, e_iadd, k_0, e_istore_5, kl_0, e_lstore_6, e_lstore_8, e_lstore_10, e_istore_12, e_iload_12, g_591_61, e_icmp_ge, g_592_61, e_istore_13, e_iload_13, e_iload_4, e_iload_5, e_istore_14, e_icmp_eq, e_iload_14, e_icmp_ne, e_lload_6, g_593_61, e_i2l, e_ladd, e_istore_15, e_iload_15, e_icmp_le, e_istore_16, e_iload_16, e_if_eq, e_lload_8, cc_M_size_0, cc_M_size_1, cc_M_size_2, cc_M_size_3, e_lmul, e_lload_10, e_iinc_12, kl_1, e_lstore_12, e_lstore_14, e_lload_12, e_lload_14, p_595_61, p_596_61, e_ret, eq_self, hK, lec (show K < 1000 by omega) hi, hi5, hq6, h1, h2, h4, oM_s, eq_n9 (show q < 1000 by omega), sumI, tw, zF (by omega), zS', Int.add_zero, not_true_eq_false, not_false_eq_true, if_true, if_false, true_or, or_true, false_or, or_false, true_and, and_true, false_and, and_false, and_self, or_self, reduceIte, Bool.false_eq_true, i10, i01, e_inc1]
          · refine ⟨(.int (mi 73 i), .int (nI q), .int (mi 64 q), .int 1), hd b_146_50 ?_⟩
            have h4' := h4
            rw [Int32.le_iff_toInt_le] at h4'
            have zS' : tS (mY mi i) (mA mi i) a.toInt (Option.map (mP mi) (some q)) = (mi 74 i).toInt * (-(mi 73 i - mi 64 q)).toInt := by
              rw [i32neg hyi hqb]
              show (if a.toInt < mY mi i ∧ mY mi i < mP mi q then _ else 0) = _
              rw [if_pos ⟨by omega, by unfold mP; omega⟩]
              rfl
            have h5 : ¬ (0 : Int32) ≤ mi 73 i - mi 64 q := by
              rw [Int32.le_iff_toInt_le, i32sub hyi hqb]
              have : (0 : Int32).toInt = 0 := rfl
              omega
            simp only [b_146_e, b_146_16, b_146_25, b_146_79, b_146_81, b_146_96, b_146_112, b_146_138, b_146_142, b_146_153, b_146_154, b_146_193, b_146_221, b_146_227, b_146_238, b_146_248, b_146_261, b_146_271, e_aloadr_0, g_581_61, e_iload_2, il_62, il_63, il_64, il_66, il_67, il_68, il_69, il_70, il_71, il_72, il_73, il_74, il_75, il_76, il_77, ik_62_0, ik_62_1, ik_62_2, ik_62_3, ik_62_4, ik_73_0, ik_74_0, e_istore_3, e_kpi, e_kpr, e_kpl, e_kpd, e_iload_3, e_if_ne, k_m9, e_goto, e_iload_1, k_1, e_isub, cc_M_neighbourL_0, cc_M_neighbourR_0, cc_M_neighbourL_1, cc_M_neighbourR_1, cc_M_neighbourL_2, cc_M_neighbourR_2, cc_M_neighbourL_3, cc_M_neighbourR_3, Option.toList_some, Option.toList_none, List.cons_append, List.nil_append, e_jsr, e_istore_4, e_iadd, k_0, e_istore_5, kl_0, e_lstore_6, e_lstore_8, e_lstore_10, e_istore_12, e_iload_12, g_591_61, e_icmp_ge, g_592_61, e_istore_13, e_iload_13, e_iload_4, e_iload_5, e_istore_14, e_icmp_eq, e_iload_14, e_icmp_ne, e_lload_6, g_593_61, e_i2l, e_ladd, e_istore_15, e_iload_15, e_icmp_le, e_istore_16, e_iload_16, e_if_eq, e_lload_8, cc_M_size_0, cc_M_size_1, cc_M_size_2, cc_M_size_3, e_lmul, e_lload_10, e_iinc_12, kl_1, e_lstore_12, e_lstore_14, e_lload_12, e_lload_14, p_595_61, p_596_61, e_ret, eq_self, hK, lec (show K < 1000 by omega) hi, hi5, hq6, h1, h2, h4, h5, oM_s, eq_n9 (show q < 1000 by omega), sumI, tw, zF (by omega), zS', Int.add_zero, Int64.ofInt_add, Int64.ofInt_mul, ← i64_of, not_true_eq_false, not_false_eq_true, if_true, if_false, true_or, or_true, false_or, or_false, true_and, and_true, false_and, and_false, and_self, or_self, reduceIte, Bool.false_eq_true, i10, i01, e_inc1]
    · have h1' : (mi 73 i).toInt < a.toInt := by rw [Int32.le_iff_toInt_le] at h1; omega
      have h2 : ¬ mi 73 i = a := fun q => by rw [q] at h1'; omega
      cases hLc : L with
      | none =>
        refine ⟨(.int (mi 73 i), .int (-9), v.2.2.1, v.2.2.2), hd b_146_50 ?_⟩
        have tw : tW (mY mi i) (mA mi i) a.toInt (Option.map (mP mi) none) (R.map (mP mi)) = (mi 74 i).toInt := by unfold tW; rw [if_pos (Or.inr (Or.inl ⟨by omega, rfl⟩))]; rfl
        have zF' : tF (mY mi i) (mA mi i) a.toInt (Option.map (mP mi) none) = 0 := rfl
        simp only [b_146_e, b_146_16, b_146_25, b_146_79, b_146_81, b_146_96, b_146_112, b_146_138, b_146_142, b_146_153, b_146_154, b_146_193, b_146_221, b_146_227, b_146_238, b_146_248, b_146_261, b_146_271, e_aloadr_0, g_581_61, e_iload_2, il_62, il_63, il_64, il_66, il_67, il_68, il_69, il_70, il_71, il_72, il_73, il_74, il_75, il_76, il_77, ik_62_0, ik_62_1, ik_62_2, ik_62_3, ik_62_4, ik_73_0, ik_74_0, e_istore_3, e_kpi, e_kpr, e_kpl, e_kpd, e_iload_3, e_if_ne, k_m9, e_goto, e_iload_1, k_1, e_isub, cc_M_neighbourL_0, cc_M_neighbourR_0, cc_M_neighbourL_1, cc_M_neighbourR_1, cc_M_neighbourL_2, cc_M_neighbourR_2, cc_M_neighbourL_3, cc_M_neighbourR_3, Option.toList_some, Option.toList_none, List.cons_append, List.nil_append, e_jsr, e_istore_4, e_iadd, k_0, e_istore_5, kl_0, e_lstore_6, e_lstore_8, e_lstore_10, e_istore_12, e_iload_12, g_591_61, e_icmp_ge, g_592_61, e_istore_13, e_iload_13, e_iload_4, e_iload_5, e_istore_14, e_icmp_eq, e_iload_14, e_icmp_ne, e_lload_6, g_593_61, e_i2l, e_ladd, e_istore_15, e_iload_15, e_icmp_le, e_istore_16, e_iload_16, e_if_eq, e_lload_8, cc_M_size_0, cc_M_size_1, cc_M_size_2, cc_M_size_3, e_lmul, e_lload_10, e_iinc_12, kl_1, e_lstore_12, e_lstore_14, e_lload_12, e_lload_14, p_595_61, p_596_61, e_ret, eq_self, hK, lec (show K < 1000 by omega) hi, hi5, h1, h2, oM_n, sumI, tw, zF', zS (by omega), Int.add_zero, Int64.ofInt_add, ← i64_of, not_true_eq_false, not_false_eq_true, if_true, if_false, true_or, or_true, false_or, or_false, true_and, and_true, false_and, and_false, and_self, or_self, reduceIte, Bool.false_eq_true, i10, i01, e_inc1]
      | some q =>
        obtain ⟨hq6, hqb⟩ := hL q hLc
        have tw : tW (mY mi i) (mA mi i) a.toInt (Option.map (mP mi) (some q)) (R.map (mP mi)) = 0 := by unfold tW; rw [if_neg (by simp; omega)]
        by_cases h4 : mi 73 i ≤ mi 64 q
        · refine ⟨(.int (mi 73 i), .int (nI q), .int (mi 64 q), .int 0), hd b_146_50 ?_⟩
          have h4' := h4
          rw [Int32.le_iff_toInt_le] at h4'
          have zF' : tF (mY mi i) (mA mi i) a.toInt (Option.map (mP mi) (some q)) = 0 := by
            show (if mY mi i < a.toInt ∧ mP mi q < mY mi i then _ else 0) = 0
            rw [if_neg (by unfold mP; omega)]
          simp only [b_146_e, b_146_16, b_146_25, b_146_79, b_146_81, b_146_96, b_146_112, b_146_138, b_146_142, b_146_153, b_146_154, b_146_193, b_146_221, b_146_227, b_146_238, b_146_248, b_146_261, b_146_271, e_aloadr_0, g_581_61, e_iload_2, il_62, il_63, il_64, il_66, il_67, il_68, il_69, il_70, il_71, il_72, il_73, il_74, il_75, il_76, il_77, ik_62_0, ik_62_1, ik_62_2, ik_62_3, ik_62_4, ik_73_0, ik_74_0, e_istore_3, e_kpi, e_kpr, e_kpl, e_kpd, e_iload_3, e_if_ne, k_m9, e_goto, e_iload_1, k_1, e_isub, cc_M_neighbourL_0, cc_M_neighbourR_0, cc_M_neighbourL_1, cc_M_neighbourR_1, cc_M_neighbourL_2, cc_M_neighbourR_2, cc_M_neighbourL_3, cc_M_neighbourR_3, Option.toList_some, Option.toList_none, List.cons_append, List.nil_append, e_jsr, e_istore_4, e_iadd, k_0, e_istore_5, kl_0, e_lstore_6, e_lstore_8, e_lstore_10, e_istore_12, e_iload_12, g_591_61, e_icmp_ge, g_592_61, e_istore_13, e_iload_13, e_iload_4, e_iload_5, e_istore_14, e_icmp_eq, e_iload_14, e_icmp_ne, e_lload_6, g_593_61, e_i2l, e_ladd, e_istore_15, e_iload_15, e_icmp_le, e_istore_16, e_iload_16, e_if_eq, e_lload_8, cc_M_size_0, cc_M_size_1, cc_M_size_2, cc_M_size_3, e_lmul, e_lload_10, e_iinc_12, kl_1, e_lstore_12, e_lstore_14, e_lload_12, e_lload_14, p_595_61, p_596_61, e_ret, eq_self, hK, lec (show K < 1000 by omega) hi, hi5, hq6, h1, h2, h4, oM_s, eq_n9 (show q < 1000 by omega), sumI, tw, zF', zS (by omega), Int.add_zero, not_true_eq_false, not_false_eq_true, if_true, if_false, true_or, or_true, false_or, or_false, true_and, and_true, false_and, and_false, and_self, or_self, reduceIte, Bool.false_eq_true, i10, i01, e_inc1]
        · refine ⟨(.int (mi 73 i), .int (nI q), .int (mi 64 q), .int 1), hd b_146_50 ?_⟩
          have h4' := h4
          rw [Int32.le_iff_toInt_le] at h4'
          have zF' : tF (mY mi i) (mA mi i) a.toInt (Option.map (mP mi) (some q)) = (mi 74 i).toInt * (mi 73 i - mi 64 q).toInt := by
            rw [i32sub hyi hqb]
            show (if mY mi i < a.toInt ∧ mP mi q < mY mi i then _ else 0) = _
            rw [if_pos ⟨by omega, by unfold mP; omega⟩]
            rfl
          have h5 : (0 : Int32) ≤ mi 73 i - mi 64 q := by
            rw [Int32.le_iff_toInt_le, i32sub hyi hqb]
            have : (0 : Int32).toInt = 0 := rfl
            omega
          simp only [b_146_e, b_146_16, b_146_25, b_146_79, b_146_81, b_146_96, b_146_112, b_146_138, b_146_142, b_146_153, b_146_154, b_146_193, b_146_221, b_146_227, b_146_238, b_146_248, b_146_261, b_146_271, e_aloadr_0, g_581_61, e_iload_2, il_62, il_63, il_64, il_66, il_67, il_68, il_69, il_70, il_71, il_72, il_73, il_74, il_75, il_76, il_77, ik_62_0, ik_62_1, ik_62_2, ik_62_3, ik_62_4, ik_73_0, ik_74_0, e_istore_3, e_kpi, e_kpr, e_kpl, e_kpd, e_iload_3, e_if_ne, k_m9, e_goto, e_iload_1, k_1, e_isub, cc_M_neighbourL_0, cc_M_neighbourR_0, cc_M_neighbourL_1, cc_M_neighbourR_1, cc_M_neighbourL_2, cc_M_neighbourR_2, cc_M_neighbourL_3, cc_M_neighbourR_3, Option.toList_some, Option.toList_none, List.cons_append, List.nil_append, e_jsr, e_istore_4, e_iadd, k_0, e_istore_5, kl_0, e_lstore_6, e_lstore_8, e_lstore_10, e_istore_12, e_iload_12, g_591_61, e_icmp_ge, g_592_61, e_istore_13, e_iload_13, e_iload_4, e_iload_5, e_istore_14, e_icmp_eq, e_iload_14, e_icmp_ne, e_lload_6, g_593_61, e_i2l, e_ladd, e_istore_15, e_iload_15, e_icmp_le, e_istore_16, e_iload_16, e_if_eq, e_lload_8, cc_M_size_0, cc_M_size_1, cc_M_size_2, cc_M_size_3, e_lmul, e_lload_10, e_iinc_12, kl_1, e_lstore_12, e_lstore_14, e_lload_12, e_lload_14, p_595_61, p_596_61, e_ret, eq_self, hK, lec (show K < 1000 by omega) hi, hi5, hq6, h1, h2, h4, h5, oM_s, eq_n9 (show q < 1000 by omega), sumI, tw, zF', zS (by omega), Int.add_zero, Int64.ofInt_add, Int64.ofInt_mul, ← i64_of, not_true_eq_false, not_false_eq_true, if_true, if_false, true_or, or_true, false_or, or_false, true_and, and_true, false_and, and_false, and_self, or_self, reduceIte, Bool.false_eq_true, i10, i01, e_inc1]) (by omega) (am_dm, am_dm, am_dm, am_dm)
  exact ⟨v'.1, v'.2.1, v'.2.2.1, v'.2.2.2, hl⟩
end Fg
