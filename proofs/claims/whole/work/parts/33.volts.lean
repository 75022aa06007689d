/-! THE REFERENCE'S findVolts -/
theorem am_up_self {α : Type} {f : Nat → Nat → α} {k i : Nat} {v : α} : am_up f k i v k i = v := by rw [am_upa, if_pos ⟨rfl, rfl⟩]
theorem i64c_le {x y : Int32} : (x.toInt64 ≤ y.toInt64) = (x.toInt ≤ y.toInt) := by
  rw [Int64.le_iff_toInt_le, Int32.toInt_toInt64, Int32.toInt_toInt64]
theorem i64c_eq {x y : Int32} : (x.toInt64 = y.toInt64) = (x.toInt = y.toInt) := by
  rw [← Int64.toInt_inj, Int32.toInt_toInt64, Int32.toInt_toInt64]
def mY (mi : Nat → Nat → Int32) (k : Nat) : Int := (mi 73 k).toInt
def mA (mi : Nat → Nat → Int32) (k : Nat) : Int := (mi 74 k).toInt
def mP (mi : Nat → Nat → Int32) (s : Nat) : Int := (mi 64 s).toInt
def fvS (mi : Nat → Nat → Int32) (K : Nat) (x : Int) (L R : Option Nat) : Int := match L, R with
  | some p, some q => sumI (fun k => tmB true (mY mi k) (mA mi k) (mP mi p) (mP mi q) x) K
  | some p, none => sumI (fun k => tmY true (mY mi k) (mA mi k) (mP mi p) x) K
  | none, some q => sumI (fun k => tmY true (mY mi k) (mA mi k) (mP mi q) x) K
  | none, none => 0
def fvD (mi : Nat → Nat → Int32) (L R : Option Nat) : Int := match L, R with
  | some p, some q => if mP mi p = mP mi q then 1 else 1000 * (mP mi q - mP mi p)
  | _, _ => 1000
def fvU (mi : Nat → Nat → Int32) (K : Nat) (x : Int) (L R : Option Nat) : Int := (mi 62 2).toInt * fvD mi L R - (mi 62 1).toInt * fvS mi K x L R
/-- up and down become two numbers -/
def ud (ml : Nat → Nat → Int64) (u d : Int) : Nat → Nat → Int64 := am_up (am_up ml 61 20 (Int64.ofInt d)) 61 19 (Int64.ofInt u)
theorem nbL_some {mi : Nat → Nat → Int32} {set x : Int32} : ∀ {i f : Nat}, nbL mi set x i = some f → f < i ∧ bt set f = true ∧ mi 64 f ≤ x ∧ ∀ s, s < i → bt set s = true → mi 64 s ≤ x → mi 64 s ≤ mi 64 f := by
  intro i
  induction i with
  | zero => intro f h; cases h
  | succ i ih =>
    intro f h
    rw [nbL] at h
    by_cases hc : bt set i = true ∧ mi 64 i ≤ x
    · rw [if_pos hc] at h
      split at h
      · rename_i hn
        cases h
        refine ⟨by omega, hc.1, hc.2, fun s hs hb hx => ?_⟩
        by_cases hsi : s = i
        · subst hsi; exact Int32.le_refl _
        · exfalso
          have key : ∀ k, k ≤ i → nbL mi set x k = none → ∀ s, s < k → bt set s = true → mi 64 s ≤ x → False := by
            intro k
            induction k with
            | zero => intro _ _ s hs; omega
            | succ k ihk =>
              intro hk hn s hs hb hx
              rw [nbL] at hn
              by_cases hck : bt set k = true ∧ mi 64 k ≤ x
              · rw [if_pos hck] at hn
                split at hn
                · cases hn
                · split at hn <;> cases hn
              · rw [if_neg hck] at hn
                by_cases hsk : s = k
                · subst hsk; exact hck ⟨hb, hx⟩
                · exact ihk (by omega) hn s (by omega) hb hx
          exact key i (Nat.le_refl _) hn s (by omega) hb hx
      · rename_i g hg
        obtain ⟨g1, g2, g3, g4⟩ := ih hg
        by_cases hle : mi 64 i ≤ mi 64 g
        · rw [if_pos hle] at h
          cases h
          refine ⟨by omega, g2, g3, fun s hs hb hx => ?_⟩
          by_cases hsi : s = i
          · subst hsi; exact hle
          · exact g4 s (by omega) hb hx
        · rw [if_neg hle] at h
          cases h
          refine ⟨by omega, hc.1, hc.2, fun s hs hb hx => ?_⟩
          by_cases hsi : s = i
          · subst hsi; exact Int32.le_refl _
          · have := g4 s (by omega) hb hx
            rw [Int32.le_iff_toInt_le] at this hle ⊢
            omega
    · rw [if_neg hc] at h
      obtain ⟨g1, g2, g3, g4⟩ := ih h
      refine ⟨by omega, g2, g3, fun s hs hb hx => ?_⟩
      by_cases hsi : s = i
      · subst hsi; exact absurd ⟨hb, hx⟩ hc
      · exact g4 s (by omega) hb hx
theorem nbL_none {mi : Nat → Nat → Int32} {set x : Int32} : ∀ {i : Nat}, nbL mi set x i = none → ∀ s, s < i → ¬ (bt set s = true ∧ mi 64 s ≤ x) := by
  intro i
  induction i with
  | zero => intro _ s hs; omega
  | succ i ih =>
    intro hn s hs
    rw [nbL] at hn
    by_cases hck : bt set i = true ∧ mi 64 i ≤ x
    · rw [if_pos hck] at hn
      split at hn
      · cases hn
      · split at hn <;> cases hn
    · rw [if_neg hck] at hn
      by_cases hsk : s = i
      · subst hsk; exact hck
      · exact ih hn s (by omega)
theorem nbR_none {mi : Nat → Nat → Int32} {set x : Int32} : ∀ {i : Nat}, nbR mi set x i = none → ∀ s, s < i → ¬ (bt set s = true ∧ x ≤ mi 64 s) := by
  intro i
  induction i with
  | zero => intro _ s hs; omega
  | succ i ih =>
    intro hn s hs
    rw [nbR] at hn
    by_cases hck : bt set i = true ∧ x ≤ mi 64 i
    · rw [if_pos hck] at hn
      split at hn
      · cases hn
      · split at hn <;> cases hn
    · rw [if_neg hck] at hn
      by_cases hsk : s = i
      · subst hsk; exact hck
      · exact ih hn s (by omega)
theorem nbR_some {mi : Nat → Nat → Int32} {set x : Int32} : ∀ {i f : Nat}, nbR mi set x i = some f → f < i ∧ bt set f = true ∧ x ≤ mi 64 f ∧ ∀ s, s < i → bt set s = true → x ≤ mi 64 s → mi 64 f ≤ mi 64 s := by
  intro i
  induction i with
  | zero => intro f h; cases h
  | succ i ih =>
    intro f h
    rw [nbR] at h
    by_cases hc : bt set i = true ∧ x ≤ mi 64 i
    · rw [if_pos hc] at h
      split at h
      · rename_i hn
        cases h
        refine ⟨by omega, hc.1, hc.2, fun s hs hb hx => ?_⟩
        by_cases hsi : s = i
        · subst hsi; exact Int32.le_refl _
        · exact absurd ⟨hb, hx⟩ (nbR_none hn s (by omega))
      · rename_i g hg
        obtain ⟨g1, g2, g3, g4⟩ := ih hg
        by_cases hle : mi 64 g ≤ mi 64 i
        · rw [if_pos hle] at h
          cases h
          refine ⟨by omega, g2, g3, fun s hs hb hx => ?_⟩
          by_cases hsi : s = i
          · subst hsi; exact hle
          · exact g4 s (by omega) hb hx
        · rw [if_neg hle] at h
          cases h
          refine ⟨by omega, hc.1, hc.2, fun s hs hb hx => ?_⟩
          by_cases hsi : s = i
          · subst hsi; exact Int32.le_refl _
          · have := g4 s (by omega) hb hx
            rw [Int32.le_iff_toInt_le] at this hle ⊢
            omega
    · rw [if_neg hc] at h
      obtain ⟨g1, g2, g3, g4⟩ := ih h
      refine ⟨by omega, g2, g3, fun s hs hb hx => ?_⟩
      by_cases hsi : s = i
      · subst hsi; exact absurd ⟨hb, hx⟩ hc
      · exact g4 s (by omega) hb hx
section Fv
variable {E : aE} {mi : Nat → Nat → Int32} {ml : Nat → Nat → Int64}
theorem fv_tail {d S0 : Int} {L : List Value} {c : List Instr} {v0 v1 v2 v3 v4 : Value} {ml : Nat → Nat → Int64} : ev E 149 (am_B 149 (Int.toNat 346)) (.ref 61 :: v1 :: v2 :: v3 :: v4 :: .long (Int64.ofInt S0) :: L) [] (HH mi (am_up ml 61 20 (Int64.ofInt d))) = some (none, HH mi (ud ml ((mi 62 2).toInt * d - (mi 62 1).toInt * S0) d)) := by
  simp only [b_149_e, b_149_103, b_149_105, b_149_120, b_149_122, b_149_149, b_149_155, b_149_168, b_149_177, b_149_183, b_149_198, b_149_199, b_149_240, b_149_244, b_149_255, b_149_256, b_149_276, b_149_280, b_149_297, b_149_302, b_149_326, b_149_328, b_149_333, b_149_339, b_149_346, e_aloadr_0, e_iload_1, e_iload_2, k_1, cc_M_neighbourL_0, cc_M_neighbourR_0, cc_M_neighbourL_1, cc_M_neighbourR_1, cc_M_neighbourL_2, cc_M_neighbourR_2, cc_M_neighbourL_3, cc_M_neighbourR_3, Option.toList_some, Option.toList_none, List.cons_append, List.nil_append, e_istore_3, e_kpi, e_kpr, e_kpl, e_kpd, k_0, e_istore_4, kl_0, e_lstore_5, e_iload_3, k_m9, e_icmp_eq, e_iload_4, g_581_61, il_62, il_63, il_64, il_66, il_67, il_68, il_69, il_70, il_71, il_72, il_73, il_74, il_75, il_76, il_77, ik_62_0, ik_62_1, ik_62_2, ik_62_3, ik_62_4, ik_73_0, ik_74_0, e_i2l, e_lstore_7, e_lstore_9, e_istore_11, e_jsr, e_iload_11, g_591_61, e_icmp_ge, g_592_61, e_lstore_12, e_lload_12, e_lload_7, e_lcmp, e_if_le, e_lload_9, e_if_ge, e_goto, e_lstore_14, e_lstore_16, e_lload_5, g_593_61, e_lload_14, e_lsub, e_lmul, e_lload_16, e_ladd, e_iinc_11, e_if_ne, kl_1, kl_1000, p_596_61, e_icmp_ne, e_istore_7, e_istore_8, e_iload_8, e_istore_9, e_iload_9, e_iload_7, e_icmp_le, e_istore_10, e_iload_10, e_if_eq, e_isub, e_istore_12, e_iload_12, e_iinc_8, g_578_61, k_2, g_596_61, p_595_61, e_ret, eq_self, am_up_self, i64_of]
  unfold ud
  rw [Int64.ofInt_sub', Int64.ofInt_mul, Int64.ofInt_mul]
theorem fv_both {n K p q : Nat} {set x : Int32} (hK : mi 61 15 = nI K) (hK5 : K ≤ 5) (hp : p < 6) (hq : q < 6) (hx : bd x) (hpb : bd (mi 64 p)) (hqb : bd (mi 64 q)) (hy : ∀ k, k < K → bd (mi 73 k)) : ev E 149 (am_B 149 (Int.toNat 55)) [.ref 61, .int set, .int x, .int (nI p), .int (nI q), .long 0, am_dm, .long (mi 64 p).toInt64, am_dm, .long (mi 64 q).toInt64, am_dm, .int 0, am_dm, am_dm, am_dm, am_dm, am_dm, am_dm] [] (HH mi ml) = some (none, HH mi (ud ml (fvU mi K x.toInt (some p) (some q)) (fvD mi (some p) (some q)))) := by
  obtain ⟨v', hl⟩ := loop_upj (fun i (v : Value × Value × Value) => ev E 149 (am_B 149 (Int.toNat 55)) [.ref 61, .int set, .int x, .int (nI p), .int (nI q), .long (Int64.ofInt (sumI (fun k => tmB true (mY mi k) (mA mi k) (mP mi p) (mP mi q) x.toInt) i)), am_dm, .long (mi 64 p).toInt64, am_dm, .long (mi 64 q).toInt64, am_dm, .int (nI i), v.1, am_dm, v.2.1, am_dm, v.2.2, am_dm] [] (HH mi ml)) 0 K (fun i v _ hi => by
    have hi5 : i < 5 := by omega
    have hyi := hy i hi
    by_cases h1 : (mi 73 i).toInt ≤ (mi 64 p).toInt
    · refine ⟨(.long (mi 73 i).toInt64, v.2.1, v.2.2), hd b_149_55 ?_⟩
      have ht : tmB true (mY mi i) (mA mi i) (mP mi p) (mP mi q) x.toInt = 0 := by unfold tmB mY mP; rw [if_neg (by omega)]
      simp only [b_149_e, b_149_103, b_149_105, b_149_120, b_149_122, b_149_149, b_149_155, b_149_168, b_149_177, b_149_183, b_149_198, b_149_199, b_149_240, b_149_244, b_149_255, b_149_256, b_149_276, b_149_280, b_149_297, b_149_302, b_149_326, b_149_328, b_149_333, b_149_339, b_149_346, e_aloadr_0, e_iload_1, e_iload_2, k_1, cc_M_neighbourL_0, cc_M_neighbourR_0, cc_M_neighbourL_1, cc_M_neighbourR_1, cc_M_neighbourL_2, cc_M_neighbourR_2, cc_M_neighbourL_3, cc_M_neighbourR_3, Option.toList_some, Option.toList_none, List.cons_append, List.nil_append, e_istore_3, e_kpi, e_kpr, e_kpl, e_kpd, k_0, e_istore_4, kl_0, e_lstore_5, e_iload_3, k_m9, e_icmp_eq, e_iload_4, g_581_61, il_62, il_63, il_64, il_66, il_67, il_68, il_69, il_70, il_71, il_72, il_73, il_74, il_75, il_76, il_77, ik_62_0, ik_62_1, ik_62_2, ik_62_3, ik_62_4, ik_73_0, ik_74_0, e_i2l, e_lstore_7, e_lstore_9, e_istore_11, e_jsr, e_iload_11, g_591_61, e_icmp_ge, g_592_61, e_lstore_12, e_lload_12, e_lload_7, e_lcmp, e_if_le, e_lload_9, e_if_ge, e_goto, e_lstore_14, e_lstore_16, e_lload_5, g_593_61, e_lload_14, e_lsub, e_lmul, e_lload_16, e_ladd, e_iinc_11, e_if_ne, kl_1, kl_1000, p_596_61, e_icmp_ne, e_istore_7, e_istore_8, e_iload_8, e_istore_9, e_iload_9, e_iload_7, e_icmp_le, e_istore_10, e_iload_10, e_if_eq, e_isub, e_istore_12, e_iload_12, e_iinc_8, g_578_61, k_2, g_596_61, p_595_61, e_ret, eq_self, hK, lec (show K < 1000 by omega) hi, hi5, lg_cmp_le, i64c_le, h1, sumI, ht, Int.add_zero, not_true_eq_false, not_false_eq_true, if_true, if_false, true_or, or_true, false_or, or_false, true_and, and_true, false_and, and_false, and_self, or_self, reduceIte, Bool.false_eq_true, i10, i01, e_inc1]
    · by_cases h2 : (mi 64 q).toInt ≤ (mi 73 i).toInt
      · refine ⟨(.long (mi 73 i).toInt64, v.2.1, v.2.2), hd b_149_55 ?_⟩
        have ht : tmB true (mY mi i) (mA mi i) (mP mi p) (mP mi q) x.toInt = 0 := by unfold tmB mY mP; rw [if_neg (by omega)]
        simp only [b_149_e, b_149_103, b_149_105, b_149_120, b_149_122, b_149_149, b_149_155, b_149_168, b_149_177, b_149_183, b_149_198, b_149_199, b_149_240, b_149_244, b_149_255, b_149_256, b_149_276, b_149_280, b_149_297, b_149_302, b_149_326, b_149_328, b_149_333, b_149_339, b_149_346, e_aloadr_0, e_iload_1, e_iload_2, k_1, cc_M_neighbourL_0, cc_M_neighbourR_0, cc_M_neighbourL_1, cc_M_neighbourR_1, cc_M_neighbourL_2, cc_M_neighbourR_2, cc_M_neighbourL_3, cc_M_neighbourR_3, Option.toList_some, Option.toList_none, List.cons_append, List.nil_append, e_istore_3, e_kpi, e_kpr, e_kpl, e_kpd, k_0, e_istore_4, kl_0, e_lstore_5, e_iload_3, k_m9, e_icmp_eq, e_iload_4, g_581_61, il_62, il_63, il_64, il_66, il_67, il_68, il_69, il_70, il_71, il_72, il_73, il_74, il_75, il_76, il_77, ik_62_0, ik_62_1, ik_62_2, ik_62_3, ik_62_4, ik_73_0, ik_74_0, e_i2l, e_lstore_7, e_lstore_9, e_istore_11, e_jsr, e_iload_11, g_591_61, e_icmp_ge, g_592_61, e_lstore_12, e_lload_12, e_lload_7, e_lcmp, e_if_le, e_lload_9, e_if_ge, e_goto, e_lstore_14, e_lstore_16, e_lload_5, g_593_61, e_lload_14, e_lsub, e_lmul, e_lload_16, e_ladd, e_iinc_11, e_if_ne, kl_1, kl_1000, p_596_61, e_icmp_ne, e_istore_7, e_istore_8, e_iload_8, e_istore_9, e_iload_9, e_iload_7, e_icmp_le, e_istore_10, e_iload_10, e_if_eq, e_isub, e_istore_12, e_iload_12, e_iinc_8, g_578_61, k_2, g_596_61, p_595_61, e_ret, eq_self, hK, lec (show K < 1000 by omega) hi, hi5, lg_cmp_le, lg_cmp_ge, i64c_le, h1, h2, sumI, ht, Int.add_zero, not_true_eq_false, not_false_eq_true, if_true, if_false, true_or, or_true, false_or, or_false, true_and, and_true, false_and, and_false, and_self, or_self, reduceIte, Bool.false_eq_true, i10, i01, e_inc1]
      · have ht : tmB true (mY mi i) (mA mi i) (mP mi p) (mP mi q) x.toInt = (mi 74 i).toInt * (min x.toInt (mi 73 i).toInt - (mi 64 p).toInt) * ((mi 64 q).toInt - max x.toInt (mi 73 i).toInt) := by unfold tmB mY mP mA; rw [if_pos ⟨rfl, by omega, by omega⟩]
        by_cases h3 : (mi 73 i).toInt ≤ x.toInt
        · refine ⟨(.long (mi 73 i).toInt64, .long (mi 73 i).toInt64, .long x.toInt64), hd b_149_55 ?_⟩
          have e1 : min x.toInt (mi 73 i).toInt = (mi 73 i).toInt := by omega
          have e2 : max x.toInt (mi 73 i).toInt = x.toInt := by omega
          simp only [b_149_e, b_149_103, b_149_105, b_149_120, b_149_122, b_149_149, b_149_155, b_149_168, b_149_177, b_149_183, b_149_198, b_149_199, b_149_240, b_149_244, b_149_255, b_149_256, b_149_276, b_149_280, b_149_297, b_149_302, b_149_326, b_149_328, b_149_333, b_149_339, b_149_346, e_aloadr_0, e_iload_1, e_iload_2, k_1, cc_M_neighbourL_0, cc_M_neighbourR_0, cc_M_neighbourL_1, cc_M_neighbourR_1, cc_M_neighbourL_2, cc_M_neighbourR_2, cc_M_neighbourL_3, cc_M_neighbourR_3, Option.toList_some, Option.toList_none, List.cons_append, List.nil_append, e_istore_3, e_kpi, e_kpr, e_kpl, e_kpd, k_0, e_istore_4, kl_0, e_lstore_5, e_iload_3, k_m9, e_icmp_eq, e_iload_4, g_581_61, il_62, il_63, il_64, il_66, il_67, il_68, il_69, il_70, il_71, il_72, il_73, il_74, il_75, il_76, il_77, ik_62_0, ik_62_1, ik_62_2, ik_62_3, ik_62_4, ik_73_0, ik_74_0, e_i2l, e_lstore_7, e_lstore_9, e_istore_11, e_jsr, e_iload_11, g_591_61, e_icmp_ge, g_592_61, e_lstore_12, e_lload_12, e_lload_7, e_lcmp, e_if_le, e_lload_9, e_if_ge, e_goto, e_lstore_14, e_lstore_16, e_lload_5, g_593_61, e_lload_14, e_lsub, e_lmul, e_lload_16, e_ladd, e_iinc_11, e_if_ne, kl_1, kl_1000, p_596_61, e_icmp_ne, e_istore_7, e_istore_8, e_iload_8, e_istore_9, e_iload_9, e_iload_7, e_icmp_le, e_istore_10, e_iload_10, e_if_eq, e_isub, e_istore_12, e_iload_12, e_iinc_8, g_578_61, k_2, g_596_61, p_595_61, e_ret, eq_self, hK, lec (show K < 1000 by omega) hi, hi5, lg_cmp_le, lg_cmp_ge, i64c_le, h1, h2, h3, sumI, ht, e1, e2, Int64.ofInt_add, Int64.ofInt_mul, Int64.ofInt_sub', ← i64_of, not_true_eq_false, not_false_eq_true, if_true, if_false, true_or, or_true, false_or, or_false, true_and, and_true, false_and, and_false, and_self, or_self, reduceIte, Bool.false_eq_true, i10, i01, e_inc1]
        · refine ⟨(.long (mi 73 i).toInt64, .long x.toInt64, .long (mi 73 i).toInt64), hd b_149_55 ?_⟩
          have e1 : min x.toInt (mi 73 i).toInt = x.toInt := by omega
          have e2 : max x.toInt (mi 73 i).toInt = (mi 73 i).toInt := by omega
          simp only [b_149_e, b_149_103, b_149_105, b_149_120, b_149_122, b_149_149, b_149_155, b_149_168, b_149_177, b_149_183, b_149_198, b_149_199, b_149_240, b_149_244, b_149_255, b_149_256, b_149_276, b_149_280, b_149_297, b_149_302, b_149_326, b_149_328, b_149_333, b_149_339, b_149_346, e_aloadr_0, e_iload_1, e_iload_2, k_1, cc_M_neighbourL_0, cc_M_neighbourR_0, cc_M_neighbourL_1, cc_M_neighbourR_1, cc_M_neighbourL_2, cc_M_neighbourR_2, cc_M_neighbourL_3, cc_M_neighbourR_3, Option.toList_some, Option.toList_none, List.cons_append, List.nil_append, e_istore_3, e_kpi, e_kpr, e_kpl, e_kpd, k_0, e_istore_4, kl_0, e_lstore_5, e_iload_3, k_m9, e_icmp_eq, e_iload_4, g_581_61, il_62, il_63, il_64, il_66, il_67, il_68, il_69, il_70, il_71, il_72, il_73, il_74, il_75, il_76, il_77, ik_62_0, ik_62_1, ik_62_2, ik_62_3, ik_62_4, ik_73_0, ik_74_0, e_i2l, e_lstore_7, e_lstore_9, e_istore_11, e_jsr, e_iload_11, g_591_61, e_icmp_ge, g_592_61, e_lstore_12, e_lload_12, e_lload_7, e_lcmp, e_if_le, e_lload_9, e_if_ge, e_goto, e_lstore_14, e_lstore_16, e_lload_5, g_593_61, e_lload_14, e_lsub, e_lmul, e_lload_16, e_ladd, e_iinc_11, e_if_ne, kl_1, kl_1000, p_596_61, e_icmp_ne, e_istore_7, e_istore_8, e_iload_8, e_istore_9, e_iload_9, e_iload_7, e_icmp_le, e_istore_10, e_iload_10, e_if_eq, e_isub, e_istore_12, e_iload_12, e_iinc_8, g_578_61, k_2, g_596_61, p_595_61, e_ret, eq_self, hK, lec (show K < 1000 by omega) hi, hi5, lg_cmp_le, lg_cmp_ge, i64c_le, h1, h2, h3, sumI, ht, e1, e2, Int64.ofInt_add, Int64.ofInt_mul, Int64.ofInt_sub', ← i64_of, not_true_eq_false, not_false_eq_true, if_true, if_false, true_or, or_true, false_or, or_false, true_and, and_true, false_and, and_false, and_self, or_self, reduceIte, Bool.false_eq_true, i10, i01, e_inc1]) (by omega) (am_dm, am_dm, am_dm)
  refine Eq.trans (show _ = _ from hl) ?_
  refine hd b_149_55 ?_
  by_cases h1 : (mi 64 p).toInt = (mi 64 q).toInt
  · have e1 : fvD mi (some p) (some q) = 1 := by unfold fvD mP; dsimp only; rw [if_pos h1]
    have := fv_tail (E := E) (mi := mi) (ml := ml) (d := 1) (S0 := sumI (fun k => tmB true (mY mi k) (mA mi k) (mP mi p) (mP mi q) x.toInt) K) (v0 := .null) (c := []) (v1 := .int set) (v2 := .int x) (v3 := .int (nI p)) (v4 := .int (nI q)) (L := [am_dm, .long (mi 64 p).toInt64, am_dm, .long (mi 64 q).toInt64, am_dm, .int (nI K), v'.1, am_dm, v'.2.1, am_dm, v'.2.2, am_dm])
    unfold fvU
    rw [e1]
    rw [show Int64.ofInt 1 = 1 from rfl] at this
    simp only [b_149_e, b_149_103, b_149_105, b_149_120, b_149_122, b_149_149, b_149_155, b_149_168, b_149_177, b_149_183, b_149_198, b_149_199, b_149_240, b_149_244, b_149_255, b_149_256, b_149_276, b_149_280, b_149_297, b_149_302, b_149_326, b_149_328, b_149_333, b_149_339, b_149_346, e_aloadr_0, e_iload_1, e_iload_2, k_1, cc_M_neighbourL_0, cc_M_neighbourR_0, cc_M_neighbourL_1, cc_M_neighbourR_1, cc_M_neighbourL_2, cc_M_neighbourR_2, cc_M_neighbourL_3, cc_M_neighbourR_3, Option.toList_some, Option.toList_none, List.cons_append, List.nil_append, e_istore_3, e_kpi, e_kpr, e_kpl, e_kpd, k_0, e_istore_4, kl_0, e_lstore_5, e_iload_3, k_m9, e_icmp_eq, e_iload_4, g_581_61, il_62, il_63, il_64, il_66, il_67, il_68, il_69, il_70, il_71, il_72, il_73, il_74, il_75, il_76, il_77, ik_62_0, ik_62_1, ik_62_2, ik_62_3, ik_62_4, ik_73_0, ik_74_0, e_i2l, e_lstore_7, e_lstore_9, e_istore_11, e_jsr, e_iload_11, g_591_61, e_icmp_ge, g_592_61, e_lstore_12, e_lload_12, e_lload_7, e_lcmp, e_if_le, e_lload_9, e_if_ge, e_goto, e_lstore_14, e_lstore_16, e_lload_5, g_593_61, e_lload_14, e_lsub, e_lmul, e_lload_16, e_ladd, e_iinc_11, e_if_ne, kl_1, kl_1000, p_596_61, e_icmp_ne, e_istore_7, e_istore_8, e_iload_8, e_istore_9, e_iload_9, e_iload_7, e_icmp_le, e_istore_10, e_iload_10, e_if_eq, e_isub, e_istore_12, e_iload_12, e_iinc_8, g_578_61, k_2, g_596_61, p_595_61, e_ret, eq_self] at this
    simp only [b_149_e, b_149_103, b_149_105, b_149_120, b_149_122, b_149_149, b_149_155, b_149_168, b_149_177, b_149_183, b_149_198, b_149_199, b_149_240, b_149_244, b_149_255, b_149_256, b_149_276, b_149_280, b_149_297, b_149_302, b_149_326, b_149_328, b_149_333, b_149_339, b_149_346, e_aloadr_0, e_iload_1, e_iload_2, k_1, cc_M_neighbourL_0, cc_M_neighbourR_0, cc_M_neighbourL_1, cc_M_neighbourR_1, cc_M_neighbourL_2, cc_M_neighbourR_2, cc_M_neighbourL_3, cc_M_neighbourR_3, Option.toList_some, Option.toList_none, List.cons_append, List.nil_append, e_istore_3, e_kpi, e_kpr, e_kpl, e_kpd, k_0, e_istore_4, kl_0, e_lstore_5, e_iload_3, k_m9, e_icmp_eq, e_iload_4, g_581_61, il_62, il_63, il_64, il_66, il_67, il_68, il_69, il_70, il_71, il_72, il_73, il_74, il_75, il_76, il_77, ik_62_0, ik_62_1, ik_62_2, ik_62_3, ik_62_4, ik_73_0, ik_74_0, e_i2l, e_lstore_7, e_lstore_9, e_istore_11, e_jsr, e_iload_11, g_591_61, e_icmp_ge, g_592_61, e_lstore_12, e_lload_12, e_lload_7, e_lcmp, e_if_le, e_lload_9, e_if_ge, e_goto, e_lstore_14, e_lstore_16, e_lload_5, g_593_61, e_lload_14, e_lsub, e_lmul, e_lload_16, e_ladd, e_iinc_11, e_if_ne, kl_1, kl_1000, p_596_61, e_icmp_ne, e_istore_7, e_istore_8, e_iload_8, e_istore_9, e_iload_9, e_iload_7, e_icmp_le, e_istore_10, e_iload_10, e_if_eq, e_isub, e_istore_12, e_iload_12, e_iinc_8, g_578_61, k_2, g_596_61, p_595_61, e_ret, eq_self, hK, lecc, lg_cmp_eq, i64c_eq, h1, not_true_eq_false, not_false_eq_true, if_true, if_false, true_or, or_true, false_or, or_false, true_and, and_true, false_and, and_false, and_self, or_self, reduceIte, Bool.false_eq_true, i10, i01]
    exact this
  · have e1 : fvD mi (some p) (some q) = 1000 * ((mi 64 q).toInt - (mi 64 p).toInt) := by unfold fvD mP; dsimp only; rw [if_neg h1]
    have := fv_tail (E := E) (mi := mi) (ml := ml) (d := 1000 * ((mi 64 q).toInt - (mi 64 p).toInt)) (S0 := sumI (fun k => tmB true (mY mi k) (mA mi k) (mP mi p) (mP mi q) x.toInt) K) (v0 := .null) (c := []) (v1 := .int set) (v2 := .int x) (v3 := .int (nI p)) (v4 := .int (nI q)) (L := [am_dm, .long (mi 64 p).toInt64, am_dm, .long (mi 64 q).toInt64, am_dm, .int (nI K), v'.1, am_dm, v'.2.1, am_dm, v'.2.2, am_dm])
    unfold fvU
    rw [e1]
    rw [Int64.ofInt_mul, Int64.ofInt_sub', ← i64_of, ← i64_of, show Int64.ofInt 1000 = 1000 from rfl] at this
    simp only [b_149_e, b_149_103, b_149_105, b_149_120, b_149_122, b_149_149, b_149_155, b_149_168, b_149_177, b_149_183, b_149_198, b_149_199, b_149_240, b_149_244, b_149_255, b_149_256, b_149_276, b_149_280, b_149_297, b_149_302, b_149_326, b_149_328, b_149_333, b_149_339, b_149_346, e_aloadr_0, e_iload_1, e_iload_2, k_1, cc_M_neighbourL_0, cc_M_neighbourR_0, cc_M_neighbourL_1, cc_M_neighbourR_1, cc_M_neighbourL_2, cc_M_neighbourR_2, cc_M_neighbourL_3, cc_M_neighbourR_3, Option.toList_some, Option.toList_none, List.cons_append, List.nil_append, e_istore_3, e_kpi, e_kpr, e_kpl, e_kpd, k_0, e_istore_4, kl_0, e_lstore_5, e_iload_3, k_m9, e_icmp_eq, e_iload_4, g_581_61, il_62, il_63, il_64, il_66, il_67, il_68, il_69, il_70, il_71, il_72, il_73, il_74, il_75, il_76, il_77, ik_62_0, ik_62_1, ik_62_2, ik_62_3, ik_62_4, ik_73_0, ik_74_0, e_i2l, e_lstore_7, e_lstore_9, e_istore_11, e_jsr, e_iload_11, g_591_61, e_icmp_ge, g_592_61, e_lstore_12, e_lload_12, e_lload_7, e_lcmp, e_if_le, e_lload_9, e_if_ge, e_goto, e_lstore_14, e_lstore_16, e_lload_5, g_593_61, e_lload_14, e_lsub, e_lmul, e_lload_16, e_ladd, e_iinc_11, e_if_ne, kl_1, kl_1000, p_596_61, e_icmp_ne, e_istore_7, e_istore_8, e_iload_8, e_istore_9, e_iload_9, e_iload_7, e_icmp_le, e_istore_10, e_iload_10, e_if_eq, e_isub, e_istore_12, e_iload_12, e_iinc_8, g_578_61, k_2, g_596_61, p_595_61, e_ret, eq_self] at this
    simp only [b_149_e, b_149_103, b_149_105, b_149_120, b_149_122, b_149_149, b_149_155, b_149_168, b_149_177, b_149_183, b_149_198, b_149_199, b_149_240, b_149_244, b_149_255, b_149_256, b_149_276, b_149_280, b_149_297, b_149_302, b_149_326, b_149_328, b_149_333, b_149_339, b_149_346, e_aloadr_0, e_iload_1, e_iload_2, k_1, cc_M_neighbourL_0, cc_M_neighbourR_0, cc_M_neighbourL_1, cc_M_neighbourR_1, cc_M_neighbourL_2, cc_M_neighbourR_2, cc_M_neighbourL_3, cc_M_neighbourR_3, Option.toList_some, Option.toList_none, List.cons_append, List.nil_append, e_istore_3, e_kpi, e_kpr, e_kpl, e_kpd, k_0, e_istore_4, kl_0, e_lstore_5, e_iload_3, k_m9, e_icmp_eq, e_iload_4, g_581_61, il_62, il_63, il_64, il_66, il_67, il_68, il_69, il_70, il_71, il_72, il_73, il_74, il_75, il_76, il_77, ik_62_0, ik_62_1, ik_62_2, ik_62_3, ik_62_4, ik_73_0, ik_74_0, e_i2l, e_lstore_7, e_lstore_9, e_istore_11, e_jsr, e_iload_11, g_591_61, e_icmp_ge, g_592_61, e_lstore_12, e_lload_12, e_lload_7, e_lcmp, e_if_le, e_lload_9, e_if_ge, e_goto, e_lstore_14, e_lstore_16, e_lload_5, g_593_61, e_lload_14, e_lsub, e_lmul, e_lload_16, e_ladd, e_iinc_11, e_if_ne, kl_1, kl_1000, p_596_61, e_icmp_ne, e_istore_7, e_istore_8, e_iload_8, e_istore_9, e_iload_9, e_iload_7, e_icmp_le, e_istore_10, e_iload_10, e_if_eq, e_isub, e_istore_12, e_iload_12, e_iinc_8, g_578_61, k_2, g_596_61, p_595_61, e_ret, eq_self, hK, lecc, lg_cmp_eq, i64c_eq, h1, not_true_eq_false, not_false_eq_true, if_true, if_false, true_or, or_true, false_or, or_false, true_and, and_true, false_and, and_false, and_self, or_self, reduceIte, Bool.false_eq_true, i10, i01]
    exact this
end Fv
