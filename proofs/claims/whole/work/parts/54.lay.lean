/-! LOOPS WITH WHAT HOLDS IN THEM; THE REFERENCE'S layLoads AND part -/
theorem loop_inv {β σ : Type} (G : Nat → σ → β) (J : Nat → σ → Prop) (n : Nat) (h : ∀ i s, i < n → J i s → ∃ s', G i s = G (i + 1) s' ∧ J (i + 1) s') : ∀ s, J 0 s → ∃ s', G 0 s = G n s' ∧ J n s' := by
  intro s hs
  have : ∀ k, k ≤ n → ∃ s', G 0 s = G k s' ∧ J k s' := by
    intro k
    induction k with
    | zero => intro _; exact ⟨s, rfl, hs⟩
    | succ k ih =>
      intro hk
      obtain ⟨s1, e1, j1⟩ := ih (by omega)
      obtain ⟨s2, e2, j2⟩ := h k s1 (by omega) j1
      exact ⟨s2, e1.trans e2, j2⟩
  exact this n (Nat.le_refl _)
theorem loop_ex {β σ : Type} (G : Nat → σ → β) (J : Nat → σ → Prop) (R : β → Prop) (n : Nat) (h : ∀ i s, i < n → J i s → R (G i s) ∨ ∃ s', G i s = G (i + 1) s' ∧ J (i + 1) s') (hz : ∀ s, J n s → R (G n s)) : ∀ s, J 0 s → R (G 0 s) := by
  have : ∀ k i s, i + k = n → J i s → R (G i s) := by
    intro k
    induction k with
    | zero => intro i s hi hj; have e : i = n := by omega
              rw [e] at hj ⊢; exact hz s hj
    | succ k ih =>
      intro i s hi hj
      rcases h i s (by omega) hj with r | ⟨s', e, j'⟩
      · exact r
      · rw [e]; exact ih (i + 1) s' (by omega) j'
  intro s hs
  exact this n 0 s (by omega) hs
theorem loop_cnt {β σ : Type} (G : Nat → σ → β) (th : Nat → Bool) (J : Nat → σ → Prop) (hskip : ∀ i s, i < 5 → th i = false → J i s → J (i + 1) s) (hstep : ∀ i s, i < 5 → th i = true → J i s → ∃ s', G (cntB th i) s = G (cntB th i + 1) s' ∧ J (i + 1) s') : ∀ s, J 0 s → ∃ s', G 0 s = G (cntB th 5) s' ∧ J 5 s' := by
  intro s hs
  have : ∀ k, k ≤ 5 → ∃ s', G 0 s = G (cntB th k) s' ∧ J k s' := by
    intro k
    induction k with
    | zero => intro _; exact ⟨s, rfl, hs⟩
    | succ k ih =>
      intro hk
      obtain ⟨s1, e1, j1⟩ := ih (by omega)
      cases ht : th k with
      | false => exact ⟨s1, by rw [cntB_skip ht]; exact e1, hskip k s1 (by omega) ht j1⟩
      | true =>
        obtain ⟨s2, e2, j2⟩ := hstep k s1 (by omega) ht j1
        exact ⟨s2, by rw [cntB_step ht]; exact e1.trans e2, j2⟩
  exact this 5 (Nat.le_refl _)
theorem loop_cntx {β σ : Type} (G : Nat → σ → β) (th : Nat → Bool) (J : Nat → σ → Prop) (R : β → Prop) (hskip : ∀ i s, i < 5 → th i = false → J i s → J (i + 1) s) (hstep : ∀ i s, i < 5 → th i = true → J i s → R (G (cntB th i) s) ∨ ∃ s', G (cntB th i) s = G (cntB th i + 1) s' ∧ J (i + 1) s') (hz : ∀ s, J 5 s → R (G (cntB th 5) s)) : ∀ s, J 0 s → R (G 0 s) := by
  have : ∀ k i s, i + k = 5 → J i s → R (G (cntB th i) s) := by
    intro k
    induction k with
    | zero => intro i s hi hj; have e : i = 5 := by omega
              rw [e] at hj ⊢; exact hz s hj
    | succ k ih =>
      intro i s hi hj
      cases ht : th i with
      | false => rw [← cntB_skip ht]; exact ih (i + 1) s (by omega) (hskip i s (by omega) ht hj)
      | true =>
        rcases hstep i s (by omega) ht hj with r | ⟨s', e, j'⟩
        · exact r
        · rw [e, ← cntB_step ht]; exact ih (i + 1) s' (by omega) j'
  intro s hs
  exact this 5 0 s (by omega) hs
section Ly2
variable {E : aE} {q : Nat → Nat → Int32} {ml : Nat → Nat → Int64}
/-- the reference's trains at a tick are the loads l -/
def rD (q : Nat → Nat → Int32) (nt t : Nat) (l : qL) : Prop := q 61 8 = nI nt ∧ nt ≤ 5 ∧ (∀ k, k < nt → (q 69 k = nI (oF q 69 k) ∧ oF q 69 k ≤ 5) ∧ mTh q t k = q_th l k ∧ (q_th l k = true → bd (q 67 (mI q t k) - 1) ∧ qI (q 67 (mI q t k) - 1).toInt = q_y l k ∧ (q 68 (mI q t k)).toInt = q_am l k)) ∧ (∀ k, k < 5 → (q_am l k).natAbs ≤ 400 ∧ (q_th l k = false → q_am l k = 0)) ∧ (∀ k, nt ≤ k → q_th l k = false) ∧ ∀ j, j < 120 → ¬ q 67 j - 1 = -9
/-- cells that layLoads and solve change -/
def fq (p q : Nat → Nat → Int32) : Prop := ∀ a b, ¬ (a = 61 ∧ (b = 15 ∨ b = 18)) → ¬ a = 73 → ¬ a = 74 → ¬ a = 75 → p a b = q a b
theorem fq_rf : fq q q := fun _ _ _ _ _ _ => rfl
theorem fq_tr {p r : Nat → Nat → Int32} (h1 : fq q p) (h2 : fq p r) : fq q r := fun a b g1 g2 g3 g4 => by rw [h1 a b g1 g2 g3 g4, h2 a b g1 g2 g3 g4]
def lof (th : Nat → Bool) (k : Nat) : Int32 := oM (if th k = true then some (cntB th k) else none)
theorem nI_ne9 {x : Int32} (h : bd x) : ¬ x = -9 := fun z => by
  unfold bd at h
  rw [z] at h
  have : (-9 : Int32).toInt = -9 := rfl
  omega
theorem x_lay {nt t : Nat} {l : qL} (hD : rD q nt t l) (ht : t < 24) : ∃ q', ev E 143 (am_B 143 0) [.ref 61, .int (nI t), am_dm, am_dm] [] (HH q ml) = some (none, HH q' ml) ∧ fq q' q ∧ rL q' (cntB (q_th l) 5) l ∧ (∀ k, k < nt → q' 75 k = lof (q_th l) k) ∧ q' 61 18 = q 61 18 := by
  obtain ⟨d1, d2, d3, d4, d5, d6⟩ := hD
  simp only [b_143_e, b_143_81, b_143_87, e_aloadr_0, k_0, p_591_61, e_istore_2, e_kpi, e_kpr, e_kpl, e_kpd, e_jsr, e_iload_2, g_584_61, e_icmp_ge, g_597_61, k_m9, is_62, is_63, is_64, is_66, is_67, is_68, is_69, is_70, is_71, is_72, is_73, is_74, is_75, is_76, is_77, iks_73_0, iks_74_0, e_iload_1, cc_M_placeOf_0, cc_M_placeOf_1, cc_M_placeOf_2, cc_M_placeOf_3, Option.toList_some, Option.toList_none, List.cons_append, List.nil_append, e_istore_3, e_iload_3, e_icmp_eq, g_591_61, g_592_61, g_593_61, cc_M_amperesOf_0, cc_M_amperesOf_1, cc_M_amperesOf_2, cc_M_amperesOf_3, e_dupr, e_dupi, k_1, e_iadd, e_iinc_2, e_goto, e_ret, eq_self]
  obtain ⟨s', hl, hJ⟩ := loop_inv (fun i (s : (Nat → Nat → Int32) × Value) => ev E 143 (am_B 143 (Int.toNat 7)) [.ref 61, .int (nI t), .int (nI i), s.2] [] (HH s.1 ml)) (fun i s => (fq s.1 q ∧ s.1 61 18 = q 61 18) ∧ s.1 61 15 = nI (cntB (q_th l) i) ∧ (∀ k, k < i → s.1 75 k = lof (q_th l) k) ∧ ∀ k, k < i → q_th l k = true → s.1 73 (cntB (q_th l) k) = q 67 (mI q t k) - 1 ∧ s.1 74 (cntB (q_th l) k) = q 68 (mI q t k)) nt (fun i s hi hj => by
    obtain ⟨p, v⟩ := s
    obtain ⟨⟨j1, j1b⟩, j2, j3, j4⟩ := hj
    dsimp only at j1 j1b j2 j3 j4 ⊢
    obtain ⟨⟨o1, o2⟩, t1, t2⟩ := d3 i hi
    have hi5 : i < 5 := by omega
    have hc := cntB_le (f := q_th l) (n := i)
    have hc5 : cntB (q_th l) i < 5 := by omega
    have e8 : p 61 8 = nI nt := by rw [j1 61 8 (by simp) (by decide) (by decide) (by decide), d1]
    have ep : ∀ a b, a = 67 ∨ a = 68 ∨ a = 69 → am_up p 75 i (-9) a b = q a b := fun a b h => by
      rw [am_upa, if_neg (by omega)]; exact j1 a b (by omega) (by omega) (by omega) (by omega)
    have eO : oF (am_up p 75 i (-9)) 69 i = oF q 69 i := by unfold oF; rw [ep 69 i (by simp)]
    have eI : mI (am_up p 75 i (-9)) t i = mI q t i := by unfold mI; rw [eO]
    have eT : mTh (am_up p 75 i (-9)) t i = q_th l i := by rw [← t1]; unfold mTh; rw [eO, eI, ep 67 _ (by simp)]
    have ho : am_up p 75 i (-9) 69 i = nI (oF (am_up p 75 i (-9)) 69 i) ∧ oF (am_up p 75 i (-9)) 69 i ≤ 5 := by rw [eO, ep 69 i (by simp)]; exact ⟨o1, o2⟩
    have hz : ∀ j, j < 120 → ¬ am_up p 75 i (-9) 67 j - 1 = -9 := fun j hj => by rw [ep 67 j (by simp)]; exact d6 j hj
    cases hth : q_th l i with
    | false =>
      refine ⟨(am_up p 75 i (-9), .int (-9)), hd b_143_7 ?_, ⟨fun a b g1 g2 g3 g4 => by dsimp only; rw [am_upa, if_neg (fun z => g4 z.1)]; exact j1 a b g1 g2 g3 g4, by dsimp only; rw [am_upa, if_neg (by omega)]; exact j1b⟩, by dsimp only; rw [am_upa, if_neg (by omega), cntB_skip hth]; exact j2, fun k hk => ?_, fun k hk hkt => ?_⟩
      · simp only [b_143_e, b_143_81, b_143_87, e_aloadr_0, k_0, p_591_61, e_istore_2, e_kpi, e_kpr, e_kpl, e_kpd, e_jsr, e_iload_2, g_584_61, e_icmp_ge, g_597_61, k_m9, is_62, is_63, is_64, is_66, is_67, is_68, is_69, is_70, is_71, is_72, is_73, is_74, is_75, is_76, is_77, iks_73_0, iks_74_0, e_iload_1, cc_M_placeOf_0, cc_M_placeOf_1, cc_M_placeOf_2, cc_M_placeOf_3, Option.toList_some, Option.toList_none, List.cons_append, List.nil_append, e_istore_3, e_iload_3, e_icmp_eq, g_591_61, g_592_61, g_593_61, cc_M_amperesOf_0, cc_M_amperesOf_1, cc_M_amperesOf_2, cc_M_amperesOf_3, e_dupr, e_dupi, k_1, e_iadd, e_iinc_2, e_goto, e_ret, eq_self, e8, lec (show nt < 1000 by omega) hi, hi5, cc_M_placeOf_0 hi5 ht ho, eT, hth, n9n9, not_true_eq_false, not_false_eq_true, if_true, if_false, true_or, or_true, false_or, or_false, true_and, and_true, false_and, and_false, and_self, or_self, reduceIte, Bool.false_eq_true, i10, i01, e_inc1]
      · dsimp only
        by_cases hki : k = i
        · subst hki; rw [am_up_self]; unfold lof; rw [if_neg (by simp [hth])]; rfl
        · rw [am_upa, if_neg (by omega)]; exact j3 k (by omega)
      · dsimp only
        have hki : k ≠ i := fun z => by rw [z, hth] at hkt; cases hkt
        rw [am_upa, if_neg (by omega), am_upa, if_neg (by omega)]
        exact j4 k (by omega) hkt
    | true =>
      obtain ⟨y1, y2, y3⟩ := t2 hth
      have e15 : am_up p 75 i (-9) 61 15 = nI (cntB (q_th l) i) := by rw [am_upa, if_neg (by omega)]; exact j2
      have hne : ¬ q 67 (mI q t i) - 1 = -9 := nI_ne9 y1
      have e15b : am_up (am_up p 75 i (-9)) 75 i (nI (cntB (q_th l) i)) 61 15 = nI (cntB (q_th l) i) := by rw [am_upa, if_neg (by omega)]; exact e15
      have e15c : ∀ v, am_up (am_up (am_up p 75 i (-9)) 75 i (nI (cntB (q_th l) i))) 73 (cntB (q_th l) i) v 61 15 = nI (cntB (q_th l) i) := fun v => by rw [am_upa, if_neg (by omega)]; exact e15b
      have e15d : ∀ v w, am_up (am_up (am_up (am_up p 75 i (-9)) 75 i (nI (cntB (q_th l) i))) 73 (cntB (q_th l) i) v) 74 (cntB (q_th l) i) w 61 15 = nI (cntB (q_th l) i) := fun v w => by rw [am_upa, if_neg (by omega)]; exact e15c v
      have e67 : am_up p 75 i (-9) 67 (mI q t i) = q 67 (mI q t i) := ep 67 _ (by simp)
      have ep2 : ∀ v a b, a = 67 ∨ a = 68 ∨ a = 69 → am_up (am_up (am_up p 75 i (-9)) 75 i (nI (cntB (q_th l) i))) 73 (cntB (q_th l) i) v a b = q a b := fun v a b h => by
        rw [am_upa, if_neg (by omega), am_upa, if_neg (by omega)]; exact ep a b h
      have eO2 : ∀ v, oF (am_up (am_up (am_up p 75 i (-9)) 75 i (nI (cntB (q_th l) i))) 73 (cntB (q_th l) i) v) 69 i = oF q 69 i := fun v => by unfold oF; rw [ep2 v 69 i (by simp)]
      have eI2 : ∀ v, mI (am_up (am_up (am_up p 75 i (-9)) 75 i (nI (cntB (q_th l) i))) 73 (cntB (q_th l) i) v) t i = mI q t i := fun v => by unfold mI; rw [eO2]
      have eT2 : ∀ v, mTh (am_up (am_up (am_up p 75 i (-9)) 75 i (nI (cntB (q_th l) i))) 73 (cntB (q_th l) i) v) t i = q_th l i := fun v => by rw [← t1]; unfold mTh; rw [eO2, eI2, ep2 v 67 _ (by simp)]
      have ho2 : ∀ v, am_up (am_up (am_up p 75 i (-9)) 75 i (nI (cntB (q_th l) i))) 73 (cntB (q_th l) i) v 69 i = nI (oF (am_up (am_up (am_up p 75 i (-9)) 75 i (nI (cntB (q_th l) i))) 73 (cntB (q_th l) i) v) 69 i) ∧ oF (am_up (am_up (am_up p 75 i (-9)) 75 i (nI (cntB (q_th l) i))) 73 (cntB (q_th l) i) v) 69 i ≤ 5 := fun v => by rw [eO2, ep2 v 69 i (by simp)]; exact ⟨o1, o2⟩
      have hz2 : ∀ v j, j < 120 → ¬ am_up (am_up (am_up p 75 i (-9)) 75 i (nI (cntB (q_th l) i))) 73 (cntB (q_th l) i) v 67 j - 1 = -9 := fun v j hj => by rw [ep2 v 67 j (by simp)]; exact d6 j hj
      have e68 : ∀ v, am_up (am_up (am_up p 75 i (-9)) 75 i (nI (cntB (q_th l) i))) 73 (cntB (q_th l) i) v 68 (mI q t i) = q 68 (mI q t i) := fun v => ep2 v 68 _ (by simp)
      refine ⟨(am_up (am_up (am_up (am_up (am_up p 75 i (-9)) 75 i (nI (cntB (q_th l) i))) 73 (cntB (q_th l) i) (q 67 (mI q t i) - 1)) 74 (cntB (q_th l) i) (q 68 (mI q t i))) 61 15 (nI (cntB (q_th l) i + 1)), .int (q 67 (mI q t i) - 1)), hd b_143_7 ?_, ⟨fun a b g1 g2 g3 g4 => ?_, ?_⟩, ?_, fun k hk => ?_, fun k hk hkt => ?_⟩
      · simp only [b_143_e, b_143_81, b_143_87, e_aloadr_0, k_0, p_591_61, e_istore_2, e_kpi, e_kpr, e_kpl, e_kpd, e_jsr, e_iload_2, g_584_61, e_icmp_ge, g_597_61, k_m9, is_62, is_63, is_64, is_66, is_67, is_68, is_69, is_70, is_71, is_72, is_73, is_74, is_75, is_76, is_77, iks_73_0, iks_74_0, e_iload_1, cc_M_placeOf_0, cc_M_placeOf_1, cc_M_placeOf_2, cc_M_placeOf_3, Option.toList_some, Option.toList_none, List.cons_append, List.nil_append, e_istore_3, e_iload_3, e_icmp_eq, g_591_61, g_592_61, g_593_61, cc_M_amperesOf_0, cc_M_amperesOf_1, cc_M_amperesOf_2, cc_M_amperesOf_3, e_dupr, e_dupi, k_1, e_iadd, e_iinc_2, e_goto, e_ret, eq_self, e8, lec (show nt < 1000 by omega) hi, hi5, hc5, cc_M_placeOf_0 hi5 ht ho, eT, eI, hth, e67, hne, e15, e15b, e15c, e15d, cc_M_amperesOf_2 hi5 ht (ho2 _) (hz2 _), eT2, eI2, e68, nI_1, not_true_eq_false, not_false_eq_true, if_true, if_false, true_or, or_true, false_or, or_false, true_and, and_true, false_and, and_false, and_self, or_self, reduceIte, Bool.false_eq_true, i10, i01, e_inc1]
      · dsimp only
        rw [am_upa, if_neg (fun z => g1 ⟨z.1, Or.inl z.2⟩), am_upa, if_neg (fun z => g3 z.1), am_upa, if_neg (fun z => g2 z.1), am_upa, if_neg (fun z => g4 z.1), am_upa, if_neg (fun z => g4 z.1)]
        exact j1 a b g1 g2 g3 g4
      · dsimp only
        rw [am_upa, if_neg (by omega), am_upa, if_neg (by omega), am_upa, if_neg (by omega), am_upa, if_neg (by omega), am_upa, if_neg (by omega)]
        exact j1b
      · dsimp only
        rw [am_up_self, cntB_step hth]
      · dsimp only
        rw [am_upa, if_neg (by omega), am_upa, if_neg (by omega), am_upa, if_neg (by omega)]
        by_cases hki : k = i
        · subst hki; rw [am_up_self]; unfold lof; rw [if_pos hth]; rfl
        · rw [am_upa, if_neg (by omega), am_upa, if_neg (by omega)]; exact j3 k (by omega)
      · dsimp only
        by_cases hki : k = i
        · subst hki
          constructor
          · rw [am_upa, if_neg (by omega), am_upa, if_neg (by omega), am_up_self]
          · rw [am_upa, if_neg (by omega), am_up_self]
        · have hlt := cntB_in hkt (show k < i by omega)
          rw [am_upa, if_neg (by omega), am_upa, if_neg (by omega), am_upa, if_neg (by omega), am_upa, if_neg (by omega), am_upa, if_neg (by omega)]
          rw [am_upa, if_neg (by omega), am_upa, if_neg (by omega), am_upa, if_neg (by omega), am_upa, if_neg (by omega), am_upa, if_neg (by omega)]
          exact j4 k (by omega) hkt) (am_up q 61 15 0, am_dm) ⟨⟨fun a b g1 g2 g3 g4 => by dsimp only; rw [am_upa, if_neg (fun z => g1 ⟨z.1, Or.inl z.2⟩)], by dsimp only; rw [am_upa, if_neg (by omega)]⟩, by dsimp only; rw [am_up_self]; rfl, fun k hk => by omega, fun k hk => by omega⟩
  obtain ⟨p, v⟩ := s'
  obtain ⟨⟨j1, j1b⟩, j2, j3, j4⟩ := hJ
  dsimp only at hl j1 j1b j2 j3 j4
  have hcnt : cntB (q_th l) 5 = cntB (q_th l) nt := by
    have : ∀ k, cntB (q_th l) (nt + k) = cntB (q_th l) nt := by
      intro k
      induction k with
      | zero => rfl
      | succ k ih => rw [show nt + (k + 1) = nt + k + 1 by omega, cntB_skip (d5 (nt + k) (by omega)), ih]
    have := this (5 - nt)
    rwa [show nt + (5 - nt) = 5 by omega] at this
  have e8 : p 61 8 = nI nt := by rw [j1 61 8 (by simp) (by decide) (by decide) (by decide), d1]
  refine ⟨p, ?_, j1, ⟨by rw [hcnt]; exact j2, rfl, fun k hk => ⟨fun hkt => ?_, by have := (d4 k hk).1; omega, (d4 k hk).2⟩⟩, j3, j1b⟩
  · refine Eq.trans (show _ = _ from hl) (hd b_143_7 ?_)
    simp only [b_143_e, b_143_81, b_143_87, e_aloadr_0, k_0, p_591_61, e_istore_2, e_kpi, e_kpr, e_kpl, e_kpd, e_jsr, e_iload_2, g_584_61, e_icmp_ge, g_597_61, k_m9, is_62, is_63, is_64, is_66, is_67, is_68, is_69, is_70, is_71, is_72, is_73, is_74, is_75, is_76, is_77, iks_73_0, iks_74_0, e_iload_1, cc_M_placeOf_0, cc_M_placeOf_1, cc_M_placeOf_2, cc_M_placeOf_3, Option.toList_some, Option.toList_none, List.cons_append, List.nil_append, e_istore_3, e_iload_3, e_icmp_eq, g_591_61, g_592_61, g_593_61, cc_M_amperesOf_0, cc_M_amperesOf_1, cc_M_amperesOf_2, cc_M_amperesOf_3, e_dupr, e_dupi, k_1, e_iadd, e_iinc_2, e_goto, e_ret, eq_self, e8, lecc, not_true_eq_false, not_false_eq_true, if_true, if_false, true_or, or_true, false_or, or_false, true_and, and_true, false_and, and_false, and_self, or_self, reduceIte, Bool.false_eq_true, i10, i01]
  · have hkn : k < nt := by
      rcases (show k < nt ∨ nt ≤ k by omega) with z | z
      · exact z
      · have := d5 k z; rw [hkt] at this; cases this
    obtain ⟨g1, g2⟩ := j4 k hkn hkt
    obtain ⟨y1, y2, y3⟩ := (d3 k hkn).2.2 hkt
    unfold mY mA
    rw [g1, g2]
    exact ⟨y1, y2, y3⟩
end Ly2
