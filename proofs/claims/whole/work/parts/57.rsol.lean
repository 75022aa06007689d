/-! THE REFERENCE'S solve -/
theorem inF_cg {p q : Nat → Nat → Int32} (h : ∀ b, p 65 b = q 65 b) : ∀ n, inF p n = inF q n := by
  intro n
  induction n with
  | zero => rfl
  | succ n ih => rw [inF, inF, ih, h n]
section Rs
variable {E : aE} {p q : Nat → Nat → Int32} {n I K : Nat} {c : qC} {l : qL}
theorem rS_of (h : rS q n I c) (h3 : p 61 3 = q 61 3) (h4 : ∀ b, p 64 b = q 64 b) (h5 : ∀ b, p 65 b = q 65 b) : rS p n I c := by
  obtain ⟨s1, s2, s3, s4, s5, s6, s7, s8, s9⟩ := h
  refine ⟨by rw [h3]; exact s1, s2, fun s hs => by rw [h4]; exact s3 s hs, by rw [inF_cg h5]; exact s4, s5, s6, fun j hj => ?_, s8, s9⟩
  unfold mP
  rw [h4]
  exact s7 j hj
theorem rR_of (h : rR q c) (he : ∀ b, p 62 b = q 62 b) : rR p c := by
  unfold rR
  rw [he, he, he]
  exact h
theorem rL_of (h : rL q K l) (h1 : p 61 15 = q 61 15) (h2 : ∀ b, p 73 b = q 73 b) (h3 : ∀ b, p 74 b = q 74 b) : rL p K l := by
  refine ⟨by rw [h1]; exact h.1, h.2.1, fun k hk => ?_⟩
  unfold mY mA
  rw [h2, h3]
  exact h.2.2 k hk
theorem cntB_inj {f : Nat → Bool} {i j : Nat} (hi : f i = true) (hj : f j = true) (h : cntB f i = cntB f j) : i = j := by
  rcases (show i < j ∨ i = j ∨ j < i by omega) with z | z | z
  · have := cntB_in hi z; omega
  · exact z
  · have := cntB_in hj z; omega
theorem rL_half (h : rL q K l) {i : Nat} (hi : i < 5) (ht : q_th l i = true) : rL (am_up q 74 (cntB (q_th l) i) (q 74 (cntB (q_th l) i) / 2)) K (q_half l i) := by
  have e0 : q_th (q_half l i) = q_th l := rfl
  have e1 : q_y (q_half l i) = q_y l := rfl
  refine ⟨by rw [am_upa, if_neg (by omega)]; exact h.1, h.2.1, fun k hk => ?_⟩
  obtain ⟨g1, g2, g3⟩ := h.2.2 k hk
  have e4 : q_am (q_half l i) k = if k = i then (q_am l i).tdiv 2 else q_am l k := rfl
  rw [e0, e1, e4]
  refine ⟨fun hkt => ?_, ?_, ?_⟩
  · obtain ⟨y1, y2, y3⟩ := g1 hkt
    unfold mY mA
    rw [am_upa, if_neg (by omega)]
    refine ⟨y1, y2, ?_⟩
    rw [am_upa]
    by_cases e : k = i
    · subst e
      have h2 : (2 : Int32).toInt = 2 := rfl
      rw [if_pos ⟨rfl, rfl⟩, if_pos rfl, Int32.toInt_div_of_ne_right _ _ (by decide), h2, ← y3]; rfl
    · rw [if_neg (fun z => e (cntB_inj hkt ht z.2)), if_neg e]; exact y3
  · split
    · have := (h.2.2 i hi).2.1
      have h2 := Int.natAbs_tdiv (q_am l i) 2
      rw [h2]
      exact Nat.le_trans (Nat.div_le_self _ _) this
    · exact g2
  · intro hkt
    split
    · rename_i e; rw [e, ht] at hkt; cases hkt
    · exact g3 hkt
theorem q_sol_th (c : qC) : ∀ (k : Nat) (l : qL), q_th (q_sol c k l) = q_th l ∧ q_y (q_sol c k l) = q_y l := by
  intro k
  induction k with
  | zero => intro l; exact ⟨rfl, rfl⟩
  | succ k ih =>
    intro l
    rw [q_sol]
    split
    · exact ⟨rfl, rfl⟩
    · exact ih _
/-- findFeeding's answer as a cell -/
def fdc (c : qC) (l : qL) : Int32 := if 0 ≤ sumI (q_am l) 5 then nI (q_bits c l) else -9
theorem x_ff {q : Nat → Nat → Int32} {l : qL} {ml : Nat → Nat → Int64} (hS : rS q n I c) (hR : rR q c) (hL : rL q K l) (hm : 0 < q_m c) : ∃ ml', ev E 144 (am_B 144 0) [.ref 61, am_dm, am_dm] [] (HH q ml) = some (some (.int (fdc c l)), HH q ml') ∧ ux ml ml' := by
  obtain ⟨s1, s2, s3, s4, s5, s6, s7, s8, s9⟩ := id hS
  refine ⟨(ffR q K n (nI I) I 1 ml).2, ?_, ux_ff _ _ _⟩
  rw [ct_M_findFeeding s1 s2 hL.1 (r_K hL) s3 (fun s hs => (s3 s hs).1) (r_y hL) s5 s4]
  unfold fdc
  by_cases h0 : 0 ≤ sumI (q_am l) 5
  · rw [r_first hS hR hL hm h0, if_pos h0]; rfl
  · rw [r_nofirst hS hR hL h0, if_neg h0]; rfl
/-- what holds at solve's end -/
def rE (q : Nat → Nat → Int32) (n I K : Nat) (c : qC) (l : qL) : Prop := rS q n I c ∧ rR q c ∧ rL q K l ∧ q 61 18 = nI (q_bits c l) ∧ 0 ≤ sumI (q_am l) 5
theorem rs_loop {t : Int32} (hm : 0 < q_m c) : ∀ (k : Nat) (q : Nat → Nat → Int32) (ml : Nat → Nat → Int64) (l : qL) (v : Value), rS q n I c → rR q c → rL q K l → pot (q_am l) 5 < k → q 61 18 = fdc c l → ∃ q' ml', ev E 142 (am_B 142 (Int.toNat 13)) [.ref 61, .int t, v] [] (HH q ml) = some (none, HH q' ml') ∧ fq q' q ∧ rE q' n I K c (q_sol c k l) ∧ ux ml ml' ∧ ∀ b, q' 75 b = q 75 b := by
  intro k
  induction k with
  | zero => intro q ml l v _ _ _ h; omega
  | succ k ih =>
    intro q ml l v hS hR hL hp hf
    have hbl := q_bits_lt (c := c) (l := l)
    -- one more halving
    have go : ∀ (i : Nat) (m1 : Nat → Nat → Int64), q_bk c l = some i → q_th l i = true → ux ml m1 → ∃ q' ml', ev E 142 (am_B 142 (Int.toNat 13)) [.ref 61, .int t, .int (nI (cntB (q_th l) i))] [] (HH (am_up (am_up q 74 (cntB (q_th l) i) (q 74 (cntB (q_th l) i) / 2)) 61 18 (fdc c (q_half l i))) m1) = some (none, HH q' ml') ∧ fq q' q ∧ rE q' n I K c (q_sol c (k + 1) l) ∧ ux ml ml' ∧ ∀ b, q' 75 b = q 75 b := by
      intro i m1 hb ht hu
      obtain ⟨i1, i2⟩ := q_bk_some hb
      have hpt := pot_half i2 i1
      have e1 : ∀ a b, ¬ (a = 74) → ¬ (a = 61 ∧ b = 18) → am_up (am_up q 74 (cntB (q_th l) i) (q 74 (cntB (q_th l) i) / 2)) 61 18 (fdc c (q_half l i)) a b = q a b := fun a b h1 h2 => by rw [am_upa, if_neg h2, am_upa, if_neg (fun z => h1 z.1)]
      obtain ⟨q', ml', g1, g2, g3, g4, g5⟩ := ih _ m1 (q_half l i) (.int (nI (cntB (q_th l) i))) (rS_of hS (e1 61 3 (by decide) (by decide)) (fun b => e1 64 b (by decide) (by simp)) (fun b => e1 65 b (by decide) (by simp))) (rR_of hR (fun b => e1 62 b (by decide) (by simp))) (rL_of (rL_half hL i1 ht) (by rw [am_upa, if_neg (by decide)]) (fun b => by rw [am_upa, if_neg (by simp)]) (fun b => by rw [am_upa, if_neg (by simp)])) (by omega) am_up_self
      refine ⟨q', ml', g1, fun a b h1 h2 h3 h4 => ?_, ?_, ux_tr hu g4, fun b => by rw [g5 b, e1 75 b (by decide) (by simp)]⟩
      · rw [g2 a b h1 h2 h3 h4, e1 a b h3 (fun z => h1 ⟨z.1, Or.inr z.2⟩)]
      · rw [q_sol, hb]; exact g3
    by_cases h0 : 0 ≤ sumI (q_am l) 5
    · have hfd : q 61 18 = nI (q_bits c l) := by rw [hf]; unfold fdc; rw [if_pos h0]
      obtain ⟨m1, e1, u1⟩ := x_hot (E := E) (ml := ml) hS hR hL hm h0 hfd
      have cc1 : ∀ {M_ : Nat} {c_ : List Instr} {L_ : List Value}, ev E M_ (.invokevirtual 150 :: c_) L_ (.ref 61 :: []) (HH q ml) = ev E M_ c_ L_ (.int (dfZ (q_hot c l)) :: []) (HH q m1) := fun {M_} {c_} {L_} => e_inv (as := [.ref 61]) (S := []) rfl rfl (Nat.le_of_ble_eq_true rfl) (rfl) (e1)
      by_cases hh : q_hot c l = true
      · obtain ⟨i, hi⟩ := hot_back hR hL hh
        obtain ⟨i1, i2, i3⟩ := q_hi_some hi
        obtain ⟨m2, e2, u2⟩ := x_back (E := E) (ml := m1) hS hR hL hm h0 hfd
        rw [hi] at e2
        have cc2 : ∀ {M_ : Nat} {c_ : List Instr} {L_ : List Value}, ev E M_ (.invokevirtual 151 :: c_) L_ (.ref 61 :: []) (HH q m1) = ev E M_ c_ L_ (.int (nI (cntB (q_th l) i)) :: []) (HH q m2) := fun {M_} {c_} {L_} => e_inv (as := [.ref 61]) (S := []) rfl rfl (Nat.le_of_ble_eq_true rfl) (rfl) (e2)
        obtain ⟨m3, e3, u3⟩ := x_ff (E := E) (ml := m2) (n := n) (I := I) (q := am_up q 74 (cntB (q_th l) i) (q 74 (cntB (q_th l) i) / 2)) (rS_of hS (by rw [am_upa, if_neg (by simp)]) (fun b => by rw [am_upa, if_neg (by simp)]) (fun b => by rw [am_upa, if_neg (by simp)])) (rR_of hR (fun b => by rw [am_upa, if_neg (by simp)])) (rL_half hL i1 i2) hm
        have cc3 : ∀ {M_ : Nat} {c_ : List Instr} {L_ : List Value} {s0_ : Value}, ev E M_ (.invokevirtual 144 :: c_) L_ (.ref 61 :: [s0_]) (HH (am_up q 74 (cntB (q_th l) i) (q 74 (cntB (q_th l) i) / 2)) m2) = ev E M_ c_ L_ (.int (fdc c (q_half l i)) :: [s0_]) (HH (am_up q 74 (cntB (q_th l) i) (q 74 (cntB (q_th l) i) / 2)) m3) := fun {M_} {c_} {L_} {s0_} => e_inv (as := [.ref 61]) (S := [s0_]) rfl rfl (Nat.le_of_ble_eq_true rfl) (rfl) (e3)
        have hk5 : cntB (q_th l) i < 5 := by have := cntB_le (f := q_th l) (n := i); omega
        have hbk : q_bk c l = some i := by unfold q_bk; rw [if_pos h0, if_pos hh]; exact hi
        obtain ⟨q', ml', g1, g2⟩ := go i m3 hbk i2 (ux_tr u1 (ux_tr u2 u3))
        refine ⟨q', ml', hd b_142_13 ?_, g2⟩
        rw [← g1]
        simp only [b_142_e, b_142_29, b_142_55, e_aloadr_0, e_iload_1, Option.toList_some, Option.toList_none, List.cons_append, List.nil_append, cc_M_findFeeding_0, cc_M_findFeeding_1, cc_M_findFeeding_2, cc_M_findFeeding_3, p_594_61, e_jsr, g_594_61, k_m9, e_icmp_eq, e_if_eq, e_istore_2, e_kpi, e_kpr, e_kpl, e_kpd, g_593_61, e_iload_2, e_dup2, il_62, il_63, il_64, il_66, il_67, il_68, il_69, il_70, il_71, il_72, il_73, il_74, il_75, il_76, il_77, ik_62_0, ik_62_1, ik_62_2, ik_62_3, ik_62_4, ik_73_0, ik_74_0, k_2, e_idiv, is_62, is_63, is_64, is_66, is_67, is_68, is_69, is_70, is_71, is_72, is_73, is_74, is_75, is_76, is_77, iks_73_0, iks_74_0, e_goto, e_ret, eq_self, hfd, eq_n9 (show q_bits c l < 1000 by omega), cc1, hh, dfZ, cc2, cc3, hk5, e_idiv (show ¬ (2 : Int32) = 0 by decide), not_true_eq_false, not_false_eq_true, if_true, if_false, true_or, or_true, false_or, or_false, true_and, and_true, false_and, and_false, and_self, or_self, reduceIte, Bool.false_eq_true, i10, i01]
      · have hbk : q_bk c l = none := by unfold q_bk; rw [if_pos h0, if_neg hh]
        refine ⟨q, m1, hd b_142_13 ?_, fq_rf, ?_, u1, fun b => rfl⟩
        · simp only [b_142_e, b_142_29, b_142_55, e_aloadr_0, e_iload_1, Option.toList_some, Option.toList_none, List.cons_append, List.nil_append, cc_M_findFeeding_0, cc_M_findFeeding_1, cc_M_findFeeding_2, cc_M_findFeeding_3, p_594_61, e_jsr, g_594_61, k_m9, e_icmp_eq, e_if_eq, e_istore_2, e_kpi, e_kpr, e_kpl, e_kpd, g_593_61, e_iload_2, e_dup2, il_62, il_63, il_64, il_66, il_67, il_68, il_69, il_70, il_71, il_72, il_73, il_74, il_75, il_76, il_77, ik_62_0, ik_62_1, ik_62_2, ik_62_3, ik_62_4, ik_73_0, ik_74_0, k_2, e_idiv, is_62, is_63, is_64, is_66, is_67, is_68, is_69, is_70, is_71, is_72, is_73, is_74, is_75, is_76, is_77, iks_73_0, iks_74_0, e_goto, e_ret, eq_self, hfd, eq_n9 (show q_bits c l < 1000 by omega), cc1, hh, dfZ, not_true_eq_false, not_false_eq_true, if_true, if_false, true_or, or_true, false_or, or_false, true_and, and_true, false_and, and_false, and_self, or_self, reduceIte, Bool.false_eq_true, i10, i01]
        · rw [q_sol_stop _ _ hbk]
          exact ⟨hS, hR, hL, hfd, h0⟩
    · have hfd : q 61 18 = -9 := by rw [hf]; unfold fdc; rw [if_neg h0]
      cases hg : q_gb (q_am l) 5 with
      | none => exact absurd (sumI_nn (q_gb_none hg)) h0
      | some i =>
        obtain ⟨i1, i3⟩ := q_gb_some hg
        have i2 : q_th l i = true := by
          cases ht : q_th l i with
          | true => rfl
          | false => have := (hL.2.2 i i1).2.2 ht; omega
        obtain ⟨m2, e2, u2⟩ := x_back2 (E := E) (ml := ml) hL hfd
        rw [hg] at e2
        have cc2 : ∀ {M_ : Nat} {c_ : List Instr} {L_ : List Value}, ev E M_ (.invokevirtual 151 :: c_) L_ (.ref 61 :: []) (HH q ml) = ev E M_ c_ L_ (.int (nI (cntB (q_th l) i)) :: []) (HH q m2) := fun {M_} {c_} {L_} => e_inv (as := [.ref 61]) (S := []) rfl rfl (Nat.le_of_ble_eq_true rfl) (rfl) (e2)
        obtain ⟨m3, e3, u3⟩ := x_ff (E := E) (ml := m2) (n := n) (I := I) (q := am_up q 74 (cntB (q_th l) i) (q 74 (cntB (q_th l) i) / 2)) (rS_of hS (by rw [am_upa, if_neg (by simp)]) (fun b => by rw [am_upa, if_neg (by simp)]) (fun b => by rw [am_upa, if_neg (by simp)])) (rR_of hR (fun b => by rw [am_upa, if_neg (by simp)])) (rL_half hL i1 i2) hm
        have cc3 : ∀ {M_ : Nat} {c_ : List Instr} {L_ : List Value} {s0_ : Value}, ev E M_ (.invokevirtual 144 :: c_) L_ (.ref 61 :: [s0_]) (HH (am_up q 74 (cntB (q_th l) i) (q 74 (cntB (q_th l) i) / 2)) m2) = ev E M_ c_ L_ (.int (fdc c (q_half l i)) :: [s0_]) (HH (am_up q 74 (cntB (q_th l) i) (q 74 (cntB (q_th l) i) / 2)) m3) := fun {M_} {c_} {L_} {s0_} => e_inv (as := [.ref 61]) (S := [s0_]) rfl rfl (Nat.le_of_ble_eq_true rfl) (rfl) (e3)
        have hk5 : cntB (q_th l) i < 5 := by have := cntB_le (f := q_th l) (n := i); omega
        have hbk : q_bk c l = some i := by unfold q_bk; rw [if_neg h0]; exact hg
        obtain ⟨q', ml', g1, g2⟩ := go i m3 hbk i2 (ux_tr u2 u3)
        refine ⟨q', ml', hd b_142_13 ?_, g2⟩
        rw [← g1]
        simp only [b_142_e, b_142_29, b_142_55, e_aloadr_0, e_iload_1, Option.toList_some, Option.toList_none, List.cons_append, List.nil_append, cc_M_findFeeding_0, cc_M_findFeeding_1, cc_M_findFeeding_2, cc_M_findFeeding_3, p_594_61, e_jsr, g_594_61, k_m9, e_icmp_eq, e_if_eq, e_istore_2, e_kpi, e_kpr, e_kpl, e_kpd, g_593_61, e_iload_2, e_dup2, il_62, il_63, il_64, il_66, il_67, il_68, il_69, il_70, il_71, il_72, il_73, il_74, il_75, il_76, il_77, ik_62_0, ik_62_1, ik_62_2, ik_62_3, ik_62_4, ik_73_0, ik_74_0, k_2, e_idiv, is_62, is_63, is_64, is_66, is_67, is_68, is_69, is_70, is_71, is_72, is_73, is_74, is_75, is_76, is_77, iks_73_0, iks_74_0, e_goto, e_ret, eq_self, hfd, n9n9, cc2, cc3, hk5, e_idiv (show ¬ (2 : Int32) = 0 by decide), not_true_eq_false, not_false_eq_true, if_true, if_false, true_or, or_true, false_or, or_false, true_and, and_true, false_and, and_false, and_self, or_self, reduceIte, Bool.false_eq_true, i10, i01]
theorem x_solve {q : Nat → Nat → Int32} {ml : Nat → Nat → Int64} {nt t : Nat} (hS : rS q n I c) (hR : rR q c) (hD : rD q nt t l) (ht : t < 24) (hm : 0 < q_m c) : ∃ q' ml', ev E 142 (am_B 142 0) [.ref 61, .int (nI t), am_dm] [] (HH q ml) = some (none, HH q' ml') ∧ fq q' q ∧ rE q' n I (cntB (q_th l) 5) c (q_end c l) ∧ ux ml ml' ∧ ∀ k, k < nt → q' 75 k = lof (q_th l) k := by
  obtain ⟨p, e1, f1, l1, o1, _⟩ := x_lay (E := E) (ml := ml) hD ht
  have cc1 : ∀ {M_ : Nat} {c_ : List Instr} {L_ : List Value}, ev E M_ (.invokevirtual 143 :: c_) L_ (.int (nI t) :: .ref 61 :: []) (HH q ml) = ev E M_ c_ L_ [] (HH p ml) := fun {M_} {c_} {L_} => e_inv (as := [.ref 61, .int (nI t)]) (S := []) rfl rfl (Nat.le_of_ble_eq_true rfl) (rfl) (e1)
  have hS1 : rS p n I c := rS_of hS (f1 61 3 (by decide) (by decide) (by decide) (by decide)) (fun b => f1 64 b (by simp) (by decide) (by decide) (by decide)) (fun b => f1 65 b (by simp) (by decide) (by decide) (by decide))
  have hR1 : rR p c := rR_of hR (fun b => f1 62 b (by simp) (by decide) (by decide) (by decide))
  obtain ⟨m1, e2, u1⟩ := x_ff (E := E) (ml := ml) hS1 hR1 l1 hm
  have cc2 : ∀ {M_ : Nat} {c_ : List Instr} {L_ : List Value} {s0_ : Value}, ev E M_ (.invokevirtual 144 :: c_) L_ (.ref 61 :: [s0_]) (HH p ml) = ev E M_ c_ L_ (.int (fdc c l) :: [s0_]) (HH p m1) := fun {M_} {c_} {L_} {s0_} => e_inv (as := [.ref 61]) (S := [s0_]) rfl rfl (Nat.le_of_ble_eq_true rfl) (rfl) (e2)
  have ep : ∀ a b, ¬ (a = 61 ∧ b = 18) → am_up p 61 18 (fdc c l) a b = p a b := fun a b h => by rw [am_upa, if_neg h]
  have hpot : pot (q_am l) 5 ≤ 9 * 5 := pot_le (fun k hk => (hD.2.2.2.1 k hk).1)
  obtain ⟨q', ml', g1, g2, g3, g4, g5⟩ := rs_loop (E := E) (t := nI t) hm 46 (am_up p 61 18 (fdc c l)) m1 l am_dm (rS_of hS1 (ep 61 3 (by decide)) (fun b => ep 64 b (by simp)) (fun b => ep 65 b (by simp))) (rR_of hR1 (fun b => ep 62 b (by simp))) (rL_of l1 (ep 61 15 (by decide)) (fun b => ep 73 b (by simp)) (fun b => ep 74 b (by simp))) (by omega) am_up_self
  refine ⟨q', ml', ?_, fun a b h1 h2 h3 h4 => ?_, g3, ux_tr u1 g4, fun k hk => ?_⟩
  · rw [← g1]
    simp only [b_142_e, b_142_29, b_142_55, e_aloadr_0, e_iload_1, Option.toList_some, Option.toList_none, List.cons_append, List.nil_append, cc_M_findFeeding_0, cc_M_findFeeding_1, cc_M_findFeeding_2, cc_M_findFeeding_3, p_594_61, e_jsr, g_594_61, k_m9, e_icmp_eq, e_if_eq, e_istore_2, e_kpi, e_kpr, e_kpl, e_kpd, g_593_61, e_iload_2, e_dup2, il_62, il_63, il_64, il_66, il_67, il_68, il_69, il_70, il_71, il_72, il_73, il_74, il_75, il_76, il_77, ik_62_0, ik_62_1, ik_62_2, ik_62_3, ik_62_4, ik_73_0, ik_74_0, k_2, e_idiv, is_62, is_63, is_64, is_66, is_67, is_68, is_69, is_70, is_71, is_72, is_73, is_74, is_75, is_76, is_77, iks_73_0, iks_74_0, e_goto, e_ret, eq_self, cc1, cc2, not_true_eq_false, not_false_eq_true, if_true, if_false, true_or, or_true, false_or, or_false, true_and, and_true, false_and, and_false, and_self, or_self, reduceIte, Bool.false_eq_true, i10, i01]
  · rw [g2 a b h1 h2 h3 h4, ep a b (fun z => h1 ⟨z.1, Or.inr z.2⟩), f1 a b h1 h2 h3 h4]
  · rw [g5 k, ep 75 k (by simp)]; exact o1 k hk
end Rs
