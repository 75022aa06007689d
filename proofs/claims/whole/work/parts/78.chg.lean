/-! CALLS THAT CHANGE THE LINE: set, trip, about, putOff, train, run -/
section Cg3
variable {p q : Nat → Nat → Int32} {r s : Nat → Nat → Int64} {n nt n' nt' : Nat}
theorem LN_S (h : n ≤ 5) : LiS (LN p) n ↔ LiS p n := by
  unfold LiS
  constructor
  · rintro ⟨h1, h2, h3⟩
    refine ⟨h1, fun s hs => by have := h2 s hs; rwa [LN_sP (by omega)] at this, fun s t h4 h5 => by have := h3 s t h4 h5; rwa [LN_sP (by omega), LN_sP (by omega)] at this⟩
  · rintro ⟨h1, h2, h3⟩
    refine ⟨h1, fun s hs => by rw [LN_sP (by omega)]; exact h2 s hs, fun s t h4 h5 => by rw [LN_sP (by omega), LN_sP (by omega)]; exact h3 s t h4 h5⟩
theorem LN_R : LiR (LN p) ↔ LiR p := by unfold LiR; rw [LN_2, LN_2, LN_2, LN_2, LN_2]
theorem LN_T (h : nt ≤ 5) : LiT (LN p) nt ↔ LiT p nt := by
  unfold LiT
  constructor
  · rintro ⟨h1, h2⟩
    refine ⟨h1, fun k hk t ht => ?_⟩
    have := h2 k hk t ht
    rwa [LN_tP (by omega), LN_tA (by omega)] at this
  · rintro ⟨h1, h2⟩
    refine ⟨h1, fun k hk t ht => ?_⟩
    rw [LN_tP (by omega), LN_tA (by omega)]
    exact h2 k hk t ht
theorem LN_W (h : nt ≤ 5) : rW p nt (LN p) (kO (LN p)) ↔ rW p nt p (oF p 5) := by
  unfold rW
  constructor
  · rintro ⟨h1, h2, h3, h4⟩
    refine ⟨h1, fun k hk => by have := h2 k hk; rwa [kO_LN] at this, fun k hk t ht => ?_, h4⟩
    have := h3 k hk t ht
    rwa [LN_tP (by omega), LN_tA (by omega)] at this
  · rintro ⟨h1, h2, h3, h4⟩
    refine ⟨h1, fun k hk => by rw [kO_LN]; exact h2 k hk, fun k hk t ht => ?_, h4⟩
    rw [LN_tP (by omega), LN_tA (by omega)]
    exact h3 k hk t ht
/-- the invariant without LN -/
def rawA (q : Nat → Nat → Int32) (n nt : Nat) : Prop := ((q 1 4 = nI n ∧ q 1 5 = nI nt) ∧ LiS q n ∧ LiR q ∧ LiT q nt ∧ ∀ k, k < 5 → q 5 k = nI (oF q 5 k) ∧ oF q 5 k ≤ 5) ∧ (∀ s, s < 5 → (q (6 + s) 2 = 0 ∨ q (6 + s) 2 = 1) ∧ 0 ≤ (q (6 + s) 3).toInt ∧ (q (6 + s) 3).toInt ≤ 100000) ∧ (∀ s, n ≤ s → s < 5 → q (6 + s) 2 = 1 ∧ q (6 + s) 3 = 3000) ∧ (∀ s, s < n → (0 ≤ (q (6 + s) 0).toInt ∧ (q (6 + s) 0).toInt ≤ 2) ∧ (sP q s).toInt ≤ (q 2 0).toInt) ∧ (∀ k, k < nt → ∀ t, t < 24 → tP q k t = -1 ∨ (tP q k t).toInt ≤ (q 2 0).toInt) ∧ ∀ k, nt ≤ k → k < 5 → (∀ t, t < 24 → tP q k t = -1) ∧ q 5 k = 0
def rawR (q : Nat → Nat → Int32) (n nt : Nat) : Prop := q 61 3 = nI n ∧ (∀ b, b < 5 → q 62 b = q 2 b) ∧ (∀ s, s < n → q 63 s = q (6 + s) 0 ∧ q 64 s = q (6 + s) 1 ∧ q 65 s = (if q (6 + s) 2 = 0 then 1 else 0) ∧ q 66 s = q (6 + s) 3) ∧ rW q nt q (oF q 5)
theorem iA_raw : iA q n nt ↔ rawA q n nt := by
  unfold iA rawA LI
  constructor
  · rintro ⟨⟨h1, h2, h3, h4, h5⟩, h6⟩
    exact ⟨⟨h1, (LN_S h2.1).mp h2, LN_R.mp h3, (LN_T h4.1).mp h4, h5⟩, h6⟩
  · rintro ⟨⟨h1, h2, h3, h4, h5⟩, h6⟩
    exact ⟨⟨h1, (LN_S h2.1).mpr h2, LN_R.mpr h3, (LN_T h4.1).mpr h4, h5⟩, h6⟩
theorem iR_raw (h : nt ≤ 5) : iR q n nt ↔ rawR q n nt := by
  unfold iR rawR
  constructor
  · rintro ⟨h1, h2, h3, h4⟩; exact ⟨h1, h2, h3, (LN_W h).mp h4⟩
  · rintro ⟨h1, h2, h3, h4⟩; exact ⟨h1, h2, h3, (LN_W h).mpr h4⟩
theorem iS_eq (hi : iS q) (h : ∀ a b, (51 ≤ a ∧ a ≤ 59) ∨ (70 ≤ a ∧ a ≤ 72) → p a b = q a b) : iS p := fun k hk => by
  rw [h (52 + 2 * k) 1 (by omega), h 70 k (by omega), h 71 k (by omega), h (52 + 2 * k) 2 (by omega)]
  exact ⟨(hi k hk).1, fun i hi2 => by rw [h 72 _ (by omega), h (53 + 2 * k) i (by omega)]; exact (hi k hk).2 i hi2⟩
/-- a line that has changed, and all is forgotten -/
theorem INV_new (hi : INV q s n nt) (hA : rawA p n' nt') (hR : rawR p n' nt') (h : ∀ a b, (51 ≤ a ∧ a ≤ 59) ∨ (70 ≤ a ∧ a ≤ 72) ∨ (a = 0 ∧ (b = 4 ∨ b = 5)) ∨ (a = 61 ∧ (b = 0 ∨ b = 1)) → p a b = q a b) (hf : p 26 8 = 0 ∧ p 45 2 = 0 ∧ p 48 2 = 0) : INV p r n' nt' := by
  refine ⟨iA_raw.mpr hA, (iR_raw hA.1.2.2.2.1.1).mpr hR, iS_eq hi.2.2.1 (fun a b z => h a b (by omega)), ?_, ⟨Or.inl hf.1, fun z => ?_⟩, fun d hd => ⟨Or.inl ?_, fun z => ?_⟩⟩
  · unfold iT
    rw [h 0 4 (by omega), h 0 5 (by omega), h 61 1 (by omega), h 61 0 (by omega)]
    exact hi.2.2.2.1
  · rw [hf.1] at z; exact absurd z (by decide)
  · rcases (show d = 0 ∨ d = 1 by omega) with rfl | rfl
    · exact hf.2.1
    · exact hf.2.2
  · rcases (show d = 0 ∨ d = 1 by omega) with rfl | rfl
    · rw [show p (45 + 3 * 0) 2 = 0 from hf.2.1] at z; exact absurd z (by decide)
    · rw [show p (45 + 3 * 1) 2 = 0 from hf.2.2] at z; exact absurd z (by decide)
theorem fgt_at : fgt q 26 8 = 0 ∧ fgt q 45 2 = 0 ∧ fgt q 48 2 = 0 := by
  unfold fgt
  refine ⟨?_, ?_, am_up_self⟩
  · rw [am_upa, if_neg (by decide), am_upa, if_neg (by decide), am_up_self]
  · rw [am_upa, if_neg (by decide), am_up_self]
theorem fgt_ne {a b : Nat} (h : ¬ a = 26 ∧ ¬ a = 45 ∧ ¬ a = 48) : fgt q a b = q a b := by
  unfold fgt
  rw [am_upa, if_neg (fun z => h.2.2 z.1), am_upa, if_neg (fun z => h.2.1 z.1), am_upa, if_neg (fun z => h.1 z.1)]
end Cg3
section Ch
variable {E : aE} {q : Nat → Nat → Int32} {s : Nat → Nat → Int64} {n nt : Nat}
theorem o_set (hi : INV q s n nt) (x b : Int32) (hb : b = 0 ∨ b = 1) : OPi E 16 122 [.ref 0, .int x, .int b] [.ref 61, .int x, .int b, am_dm] q s := by
  obtain ⟨⟨l1, l2⟩, ⟨l3, l4⟩, ⟨l5, l6⟩, l7⟩ := lay_b hi
  by_cases hx : 0 ≤ x ∧ x < nI n
  · obtain ⟨j, hj, rfl⟩ := rng_n (N := n) (by omega) hx.1 hx.2
    have hj5 : j < 5 := by omega
    have h65 := (hi.2.1.2.2.1 j hj).2.2.1
    have hin := (hi.1.2.1 j hj5).1
    by_cases he : q (6 + j) 2 = b
    · -- as it was
      refine ⟨0, q, s, am_up q 65 j (if b = 0 then 1 else 0), s, n, nt, ?_, ?_, INV_of hi (fun a c z => ?_) (fun _ _ _ => rfl)⟩
      · simp only [b_16_e, b_16_13, b_16_31, e_aloadr_0, g_512_0, e_iload_1, cc_Line_hasStation_0, cc_Line_hasStation_1, cc_Line_hasStation_2, cc_Line_hasStation_3, Option.toList_some, Option.toList_none, List.cons_append, List.nil_append, e_if_ne, k_m1, e_iret, g_129_1, il_3, il_4, il_29, il_51, g_386_6, g_386_7, g_386_8, g_386_9, g_386_10, gs_f386, e_iload_2, e_icmp_ne, k_0, p_386_6, p_386_7, p_386_8, p_386_9, p_386_10, ps_f386, g_513_0, cc_Day_forget_0, cc_Day_forget_1, cc_Day_forget_2, cc_Day_forget_3, k_1, eq_self, l1, hx, hj5, eq_true he, not_true_eq_false, not_false_eq_true, if_true, if_false, true_or, or_true, false_or, or_false, true_and, and_true, false_and, and_false, and_self, or_self, reduceIte, Bool.false_eq_true, i10, i01]
      · rcases hb with rfl | rfl
        · rw [he] at h65
          simp only [b_122_e, b_122_10, b_122_24, b_122_25, b_122_39, b_122_40, e_aloadr_0, e_iload_1, cc_M_isStation_0, cc_M_isStation_1, cc_M_isStation_2, cc_M_isStation_3, Option.toList_some, Option.toList_none, List.cons_append, List.nil_append, e_if_ne, k_m1, e_iret, g_582_61, il_65, e_iload_2, e_icmp_ne, k_1, e_goto, k_0, e_jsr, e_istore_3, e_kpi, e_kpr, e_kpl, e_kpd, is_65, e_iload_3, eq_self, l5, hx, hj5, h65, or_true, true_or, not_true_eq_false, not_false_eq_true, if_true, if_false, true_or, or_true, false_or, or_false, true_and, and_true, false_and, and_false, and_self, or_self, reduceIte, Bool.false_eq_true, i10, i01]
        · rw [he] at h65
          simp only [b_122_e, b_122_10, b_122_24, b_122_25, b_122_39, b_122_40, e_aloadr_0, e_iload_1, cc_M_isStation_0, cc_M_isStation_1, cc_M_isStation_2, cc_M_isStation_3, Option.toList_some, Option.toList_none, List.cons_append, List.nil_append, e_if_ne, k_m1, e_iret, g_582_61, il_65, e_iload_2, e_icmp_ne, k_1, e_goto, k_0, e_jsr, e_istore_3, e_kpi, e_kpr, e_kpl, e_kpd, is_65, e_iload_3, eq_self, l5, hx, hj5, h65, or_true, true_or, not_true_eq_false, not_false_eq_true, if_true, if_false, true_or, or_true, false_or, or_false, true_and, and_true, false_and, and_false, and_self, or_self, reduceIte, Bool.false_eq_true, i10, i01]
      · rw [am_upa]
        by_cases e : a = 65 ∧ c = j
        · rw [if_pos e, e.1, e.2, h65, he]
        · rw [if_neg e]
    · -- changed
      have hp1 : ∀ a c, ¬ (a = 6 + j ∧ c = 2) → ¬ a = 26 ∧ ¬ a = 45 ∧ ¬ a = 48 → fgt (am_up q (6 + j) 2 b) a c = q a c := fun a c h1 h2 => by rw [fgt_ne h2, am_upa, if_neg h1]
      have e613 : fgt (am_up q (6 + j) 2 b) 61 3 = nI n := by rw [hp1 61 3 (by omega) (by decide)]; exact l5
      have e65 : fgt (am_up q (6 + j) 2 b) 65 j = q 65 j := hp1 65 j (by omega) (by decide)
      have e62 : fgt (am_up q (6 + j) 2 b) (6 + j) 2 = b := by rw [fgt_ne (by omega), am_up_self]
      have hp2 : ∀ a c, ¬ (a = 6 + j ∧ c = 2) → ¬ a = 26 ∧ ¬ a = 45 ∧ ¬ a = 48 → ¬ (a = 65 ∧ c = j) → am_up (fgt (am_up q (6 + j) 2 b)) 65 j (if b = 0 then 1 else 0) a c = q a c := fun a c h1 h2 h3 => by rw [am_upa, if_neg h3, hp1 a c h1 h2]
      have hA := iA_raw.mp hi.1
      have hR := (iR_raw l4).mp hi.2.1
      obtain ⟨⟨⟨a1, a1b⟩, a2, a3, a4, a5⟩, a6, a7, a8, a9, a10⟩ := hA
      obtain ⟨r1, r2, r3, w1, w2, w3, w4⟩ := hR
      have eP : ∀ k, k < 5 → sP (am_up (fgt (am_up q (6 + j) 2 b)) 65 j (if b = 0 then 1 else 0)) k = sP q k := fun k hk => hp2 _ _ (by omega) (by omega) (by omega)
      have e2 : ∀ c, am_up (fgt (am_up q (6 + j) 2 b)) 65 j (if b = 0 then 1 else 0) 2 c = q 2 c := fun c => hp2 _ _ (by omega) (by omega) (by omega)
      have eT : ∀ k t, k < 5 → tP (am_up (fgt (am_up q (6 + j) 2 b)) 65 j (if b = 0 then 1 else 0)) k t = tP q k t ∧ tA (am_up (fgt (am_up q (6 + j) 2 b)) 65 j (if b = 0 then 1 else 0)) k t = tA q k t := fun k t hk => ⟨hp2 _ _ (by omega) (by omega) (by omega), hp2 _ _ (by omega) (by omega) (by omega)⟩
      have e5 : ∀ k, am_up (fgt (am_up q (6 + j) 2 b)) 65 j (if b = 0 then 1 else 0) 5 k = q 5 k := fun k => hp2 _ _ (by omega) (by omega) (by omega)
      have eO : ∀ k, oF (am_up (fgt (am_up q (6 + j) 2 b)) 65 j (if b = 0 then 1 else 0)) 5 k = oF q 5 k := fun k => by unfold oF; rw [e5]
      have e62' : am_up (fgt (am_up q (6 + j) 2 b)) 65 j (if b = 0 then 1 else 0) (6 + j) 2 = b := by rw [am_upa, if_neg (by omega)]; exact e62
      refine ⟨1, fgt (am_up q (6 + j) 2 b), s, am_up (fgt (am_up q (6 + j) 2 b)) 65 j (if b = 0 then 1 else 0), s, n, nt, ?_, ?_, INV_new hi ⟨⟨⟨?_, ?_⟩, ⟨a2.1, fun k hk => ?_, fun k t h1 h2 => ?_⟩, ?_, ⟨a4.1, fun k hk t ht => ?_⟩, fun k hk => ?_⟩, fun k hk => ?_, fun k h1 h2 => ?_, fun k hk => ?_, fun k hk t ht => ?_, fun k h1 h2 => ⟨fun t ht => ?_, ?_⟩⟩ ⟨?_, fun c hc => ?_, fun k hk => ?_, ?_, fun k hk => ?_, fun k hk t ht => ?_, fun k hk => ?_⟩ (fun a c z => ?_) ⟨?_, ?_, ?_⟩⟩
      · simp only [b_16_e, b_16_13, b_16_31, e_aloadr_0, g_512_0, e_iload_1, cc_Line_hasStation_0, cc_Line_hasStation_1, cc_Line_hasStation_2, cc_Line_hasStation_3, Option.toList_some, Option.toList_none, List.cons_append, List.nil_append, e_if_ne, k_m1, e_iret, g_129_1, il_3, il_4, il_29, il_51, g_386_6, g_386_7, g_386_8, g_386_9, g_386_10, gs_f386, e_iload_2, e_icmp_ne, k_0, p_386_6, p_386_7, p_386_8, p_386_9, p_386_10, ps_f386, g_513_0, cc_Day_forget_0, cc_Day_forget_1, cc_Day_forget_2, cc_Day_forget_3, k_1, eq_self, l1, hx, hj5, he, hb, not_true_eq_false, not_false_eq_true, if_true, if_false, true_or, or_true, false_or, or_false, true_and, and_true, false_and, and_false, and_self, or_self, reduceIte, Bool.false_eq_true, i10, i01]
      · rcases hb with rfl | rfl
        · have h1 : q (6 + j) 2 = 1 := by rcases hin with z | z; exact absurd z he; exact z
          rw [h1, if_neg (by decide)] at h65
          simp only [b_122_e, b_122_10, b_122_24, b_122_25, b_122_39, b_122_40, e_aloadr_0, e_iload_1, cc_M_isStation_0, cc_M_isStation_1, cc_M_isStation_2, cc_M_isStation_3, Option.toList_some, Option.toList_none, List.cons_append, List.nil_append, e_if_ne, k_m1, e_iret, g_582_61, il_65, e_iload_2, e_icmp_ne, k_1, e_goto, k_0, e_jsr, e_istore_3, e_kpi, e_kpr, e_kpl, e_kpd, is_65, e_iload_3, eq_self, e613, hx, hj5, e65, h65, or_true, true_or, not_true_eq_false, not_false_eq_true, if_true, if_false, true_or, or_true, false_or, or_false, true_and, and_true, false_and, and_false, and_self, or_self, reduceIte, Bool.false_eq_true, i10, i01]
        · have h1 : q (6 + j) 2 = 0 := by rcases hin with z | z; exact z; exact absurd z he
          rw [h1, if_pos rfl] at h65
          simp only [b_122_e, b_122_10, b_122_24, b_122_25, b_122_39, b_122_40, e_aloadr_0, e_iload_1, cc_M_isStation_0, cc_M_isStation_1, cc_M_isStation_2, cc_M_isStation_3, Option.toList_some, Option.toList_none, List.cons_append, List.nil_append, e_if_ne, k_m1, e_iret, g_582_61, il_65, e_iload_2, e_icmp_ne, k_1, e_goto, k_0, e_jsr, e_istore_3, e_kpi, e_kpr, e_kpl, e_kpd, is_65, e_iload_3, eq_self, e613, hx, hj5, e65, h65, or_true, true_or, not_true_eq_false, not_false_eq_true, if_true, if_false, true_or, or_true, false_or, or_false, true_and, and_true, false_and, and_false, and_self, or_self, reduceIte, Bool.false_eq_true, i10, i01]
      · rw [hp2 1 4 (by omega) (by decide) (by omega)]; exact a1
      · rw [hp2 1 5 (by omega) (by decide) (by omega)]; exact a1b
      · rw [eP k (by omega)]; exact a2.2.1 k hk
      · rw [eP k (by omega), eP t (by omega)]; exact a2.2.2 k t h1 h2
      · unfold LiR; rw [e2, e2, e2, e2, e2]; exact a3
      · rw [(eT k t (by omega)).1, (eT k t (by omega)).2]; exact a4.2 k hk t ht
      · rw [e5, eO]; exact a5 k hk
      · by_cases e : k = j
        · subst e; rw [e62', hp2 (6 + k) 3 (by omega) (by omega) (by omega)]; exact ⟨hb, (a6 k hk).2⟩
        · rw [hp2 (6 + k) 2 (by omega) (by omega) (by omega), hp2 (6 + k) 3 (by omega) (by omega) (by omega)]; exact a6 k hk
      · rw [hp2 (6 + k) 2 (by omega) (by omega) (by omega), hp2 (6 + k) 3 (by omega) (by omega) (by omega)]; exact a7 k h1 h2
      · rw [hp2 (6 + k) 0 (by omega) (by omega) (by omega), eP k (by omega), e2]; exact a8 k hk
      · rw [(eT k t (by omega)).1, e2]; exact a9 k hk t ht
      · rw [(eT k t (by omega)).1]; exact (a10 k h1 h2).1 t ht
      · rw [e5]; exact (a10 k h1 h2).2
      · rw [hp2 61 3 (by omega) (by decide) (by omega)]; exact r1
      · rw [hp2 62 c (by omega) (by decide) (by omega), e2]; exact r2 c hc
      · rw [hp2 63 k (by omega) (by decide) (by omega), hp2 64 k (by omega) (by decide) (by omega), hp2 66 k (by omega) (by decide) (by omega), hp2 (6 + k) 0 (by omega) (by omega) (by omega), hp2 (6 + k) 1 (by omega) (by omega) (by omega), hp2 (6 + k) 3 (by omega) (by omega) (by omega)]
        refine ⟨(r3 k hk).1, (r3 k hk).2.1, ?_, (r3 k hk).2.2.2⟩
        by_cases e : k = j
        · subst e; rw [am_up_self, e62']
        · rw [hp2 65 k (by omega) (by decide) (by omega), hp2 (6 + k) 2 (by omega) (by omega) (by omega)]; exact (r3 k hk).2.2.1
      · rw [hp2 61 8 (by omega) (by decide) (by omega)]; exact w1
      · rw [hp2 69 k (by omega) (by decide) (by omega), eO]; exact w2 k hk
      · rw [hp2 67 _ (by omega) (by decide) (by omega), hp2 68 _ (by omega) (by decide) (by omega), (eT k t (by omega)).1, (eT k t (by omega)).2]; exact w3 k hk t ht
      · rw [hp2 67 k (by omega) (by decide) (by omega)]; exact w4 k hk
      · exact hp2 a c (by omega) (by omega) (by omega)
      · rw [am_upa, if_neg (by omega)]; exact fgt_at.1
      · rw [am_upa, if_neg (by omega)]; exact fgt_at.2.1
      · rw [am_upa, if_neg (by omega)]; exact fgt_at.2.2
  · refine ⟨-1, q, s, q, s, n, nt, ?_, ?_, hi⟩
    · simp only [b_16_e, b_16_13, b_16_31, e_aloadr_0, g_512_0, e_iload_1, cc_Line_hasStation_0, cc_Line_hasStation_1, cc_Line_hasStation_2, cc_Line_hasStation_3, Option.toList_some, Option.toList_none, List.cons_append, List.nil_append, e_if_ne, k_m1, e_iret, g_129_1, il_3, il_4, il_29, il_51, g_386_6, g_386_7, g_386_8, g_386_9, g_386_10, gs_f386, e_iload_2, e_icmp_ne, k_0, p_386_6, p_386_7, p_386_8, p_386_9, p_386_10, ps_f386, g_513_0, cc_Day_forget_0, cc_Day_forget_1, cc_Day_forget_2, cc_Day_forget_3, k_1, eq_self, l1, hx, not_true_eq_false, not_false_eq_true, if_true, if_false, true_or, or_true, false_or, or_false, true_and, and_true, false_and, and_false, and_self, or_self, reduceIte, Bool.false_eq_true, i10, i01]
    · simp only [b_122_e, b_122_10, b_122_24, b_122_25, b_122_39, b_122_40, e_aloadr_0, e_iload_1, cc_M_isStation_0, cc_M_isStation_1, cc_M_isStation_2, cc_M_isStation_3, Option.toList_some, Option.toList_none, List.cons_append, List.nil_append, e_if_ne, k_m1, e_iret, g_582_61, il_65, e_iload_2, e_icmp_ne, k_1, e_goto, k_0, e_jsr, e_istore_3, e_kpi, e_kpr, e_kpl, e_kpd, is_65, e_iload_3, eq_self, l5, hx, not_true_eq_false, not_false_eq_true, if_true, if_false, true_or, or_true, false_or, or_false, true_and, and_true, false_and, and_false, and_self, or_self, reduceIte, Bool.false_eq_true, i10, i01]
end Ch
