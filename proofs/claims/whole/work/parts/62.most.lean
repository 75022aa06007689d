/-! MOST; the class's findMost -/
def d_mT (c : qC) (le : qL) (b : Rat) : Nat → Rat
  | 0 => b
  | i + 1 => if q_F c le i = true ∧ d_mT c le b i < q_g c le i then q_g c le i else d_mT c le b i
def d_most (c : qC) (l : Nat → qL) : Nat → Rat
  | 0 => 0
  | t + 1 => d_mT c (q_end c (l t)) (d_most c l t) (q_m c)
theorem d_mT_ge {c : qC} {le : qL} {b : Rat} : ∀ i, b ≤ d_mT c le b i := by
  intro i
  induction i with
  | zero => exact Rat.le_refl
  | succ i ih => rw [d_mT]; split <;> grind
theorem d_most_mono {c : qC} {l : Nat → qL} {t : Nat} : ∀ k, d_most c l t ≤ d_most c l (t + k) := by
  intro k
  induction k with
  | zero => exact Rat.le_refl
  | succ k ih =>
    have := d_mT_ge (c := c) (le := q_end c (l (t + k))) (b := d_most c l (t + k)) (q_m c)
    rw [show t + (k + 1) = t + k + 1 by omega, d_most]
    grind
theorem d_most_nn {c : qC} {l : Nat → qL} {t : Nat} : 0 ≤ d_most c l t := by
  have := d_most_mono (c := c) (l := l) (t := 0) t
  rw [Nat.zero_add] at this
  exact this
theorem q_bk_z {c : qC} {l : qL} (h : ∀ n, n < 5 → q_am l n = 0) : q_bk c l = none := by
  have h0 : 0 ≤ sumI (q_am l) 5 := sumI_nn (fun n hn => by rw [h n hn]; exact Int.le_refl _)
  unfold q_bk
  rw [if_pos h0]
  split
  · cases hq : q_hi (q_th l) (q_am l) (q_vn c l) 5 with
    | none => rfl
    | some i => have := q_hi_some hq; have := h i this.1; omega
  · rfl
theorem q_g_z {c : qC} {l : qL} (h : ∀ n, n < 5 → q_am l n = 0) (j : Nat) : q_g c l j = 0 := by
  unfold q_g gS
  exact sumR_z (fun n hn => by unfold q_a; rw [h n hn, qI_0]; grind)
theorem q_end_z {c : qC} {l : qL} (h : ∀ n, n < 5 → q_am l n = 0) : q_end c l = l := q_sol_stop _ _ (q_bk_z h)
theorem kL_z {L : Nat → Nat → Int32} {off : Nat → Nat} {nt t : Nat} (h : ∀ n, n < nt → q_th (kL L off nt t) n = false) : ∀ n, n < 5 → q_am (kL L off nt t) n = 0 := fun n hn => by
  show (if kth L off nt t n = true then _ else 0) = 0
  have : ¬ kth L off nt t n = true := fun z => by
    have z2 := z
    unfold kth at z2
    rw [decide_eq_true_eq] at z2
    have h2 : kth L off nt t n = false := h n z2.1
    rw [z] at h2; cases h2
  rw [if_neg this]
theorem d_most_z {c : qC} {L : Nat → Nat → Int32} {off : Nat → Nat} {nt t : Nat} (h : ∀ n, n < nt → q_th (kL L off nt t) n = false) : d_most c (kL L off nt) (t + 1) = d_most c (kL L off nt) t := by
  have hz := kL_z h
  rw [d_most, q_end_z hz]
  have hb := d_most_nn (c := c) (l := kL L off nt) (t := t)
  have : ∀ i, d_mT c (kL L off nt t) (d_most c (kL L off nt) t) i = d_most c (kL L off nt) t := by
    intro i
    induction i with
    | zero => rfl
    | succ i ih => rw [d_mT, ih, q_g_z hz, if_neg (by grind)]
  exact this _
theorem fr2_mono {u d : Int64} {r : Rat} {B B' : Nat} (h : fr2 u d r B) (hB : B ≤ B') : fr2 u d r B' := by
  obtain ⟨a, b, h1, h2, h3, h4, h5, h6⟩ := h
  exact ⟨a, b, h1, h2, h3, h4, by omega, h6⟩
theorem fr2_01 : fr2 0 1 0 1000000000000 := ⟨0, 1, rfl, rfl, by decide, by decide, by decide, by rw [qI_0, qI_1]; grind⟩
theorem fr2_ge {u d : Int64} {r : Rat} {B : Nat} {T : Int32} (h : fr2 u d r B) (hB : B ≤ 1000000000000) (hT : T.toInt.natAbs ≤ 1000000) : (T.toInt64 * d ≤ u) = (qI T.toInt ≤ r) := by
  obtain ⟨a, b, rfl, rfl, b1, b2, b3, b4⟩ := h
  have m1 := mul_bd (A := 1000000) (B := 200000) (a := T.toInt) (b := b) hT (by omega)
  rw [i64_of, ← Int64.ofInt_mul, propext (i64_le (a := T.toInt * b) (b := a) (by omega) (by omega))]
  have := z_lt (a := a) (b := b) (r := r) (a' := T.toInt) (b' := 1) (s := qI T.toInt) b1 Int.one_pos b4 (by rw [qI_1]; grind)
  apply propext
  rw [Int.mul_one] at this
  constructor
  · intro z
    have h2 : ¬ r < qI T.toInt := fun y => by have := this ▸ y; omega
    grind
  · intro z
    have h2 : ¬ a < T.toInt * b := fun y => by have := this ▸ y; grind
    omega
theorem rtm_q {p : Nat → Nat → Int32} {r : Nat → Nat → Int64} {c : qC} {le : qL} {b : Rat} (hE : cE p r c le) (hb : fr2 (r 28 0) (r 28 1) b 1000000000000) : ∀ i, i ≤ q_m c → fr2 (rtmF p r 28 i 28 0) (rtmF p r 28 i 28 1) (d_mT c le b i) 1000000000000 := by
  intro i
  induction i with
  | zero => intro _; exact hb
  | succ i ih =>
    intro hi
    have e := ih (by omega)
    obtain ⟨g1, g2⟩ := hE.2.2.2 i (by omega)
    rw [rtmF, d_mT, g1]
    by_cases hF : q_F c le i = true
    · have hg := fr2_mono (g2 hF) (show 20000000000 ≤ 1000000000000 by decide)
      have hcmp := fr2_lt e hg (Nat.le_refl _)
      rw [if_pos hF]
      by_cases h2 : d_mT c le b i < q_g c le i
      · rw [if_pos (by rw [hcmp]; exact h2), if_pos ⟨hF, h2⟩, shr_0, shr_1]
        exact hg
      · rw [if_neg (by rw [hcmp]; exact h2), if_neg (fun z => h2 z.2), shr_ne (by decide), shr_ne (by decide)]
        exact e
    · rw [if_neg hF, if_neg (fun z => hF z.1)]
      exact e
section Ms
variable {E : aE} {q : Nat → Nat → Int32} {ml : Nat → Nat → Int64} {c : qC} {L : Nat → Nat → Int32} {off : Nat → Nat} {nt : Nat}
theorem y_most {U D : Int64} {b : Rat} {k : Nat} (hk : k = 5 ∨ k = 33) (hc : cT q c L off nt k) (hm : 0 < q_m c) (hT : LiT L nt) (hb : fr2 U D b 1000000000000) : ∃ p r, ev E 75 (am_B 75 0) [.ref 26, .ref k, .long U, am_dm, .long D, am_dm, am_dm] [] (HH q ml) = some (none, HH p r) ∧ f1 p q ∧ g1 r ml ∧ ∃ h, fr2 (r 28 0) (r 28 1) h 1000000000000 ∧ (h = d_most c (kL L off nt) 24 ∨ (b ≤ h ∧ h ≤ d_most c (kL L off nt) 24)) := by
  simp only [b_75_e, b_75_72, b_75_78, e_aloadr_0, g_75_26, e_lload_2, e_lload_4, cc_Share_become_0, cc_Share_become_1, cc_Share_become_2, cc_Share_become_3, lay_27, lay_28, lay_30, lay_31, lay_32, lay_43, lay_44, lay_46, lay_49, lay_60, Option.toList_some, Option.toList_none, List.cons_append, List.nil_append, g_68_26, kl_0, kl_1, k_0, e_istore_6, e_kpi, e_kpr, e_kpl, e_kpd, e_jsr, e_iload_6, k_24, e_icmp_ge, e_aloadr_1, cc_Day_takeLoads_0, cc_Day_takeLoads_1, cc_Day_takeLoads_2, cc_Day_takeLoads_3, e_if_eq, g_64_26, cc_Circuit_settle_0, cc_Circuit_settle_1, cc_Circuit_settle_2, cc_Circuit_settle_3, cc_Circuit_raiseToMost_0, cc_Circuit_raiseToMost_1, cc_Circuit_raiseToMost_2, cc_Circuit_raiseToMost_3, cc_Share_isBelow_0, cc_Share_isBelow_1, cc_Share_isBelow_2, cc_Share_isBelow_3, e_if_ne, e_ret, e_iinc_6, e_goto, eq_self, cc_Share_become_0 lay_32, cc_Share_become_0 lay_28, shr_up]
  refine loop_ex (fun i (s : (Nat → Nat → Int32) × (Nat → Nat → Int64)) => ev E 75 (am_B 75 (Int.toNat 22)) [.ref 26, .ref k, .long U, am_dm, .long D, am_dm, .int (nI i)] [] (HH s.1 s.2)) (fun i s => f1 s.1 q ∧ g1 s.2 ml ∧ s.2 32 0 = U ∧ s.2 32 1 = D ∧ fr2 (s.2 28 0) (s.2 28 1) (d_most c (kL L off nt) i) 1000000000000) (fun x => ∃ p r, x = some (none, HH p r) ∧ f1 p q ∧ g1 r ml ∧ ∃ h, fr2 (r 28 0) (r 28 1) h 1000000000000 ∧ (h = d_most c (kL L off nt) 24 ∨ (b ≤ h ∧ h ≤ d_most c (kL L off nt) 24))) 24 (fun i s hi hj => ?_) (fun s hj => ?_) (q, shr (shr ml 32 U D) 28 0 1) ⟨f1_rf, g1_tr (g1_shr (by simp)) (g1_shr (by simp)), by dsimp only; rw [shr_ne (by decide)]; exact shr_0, by dsimp only; rw [shr_ne (by decide)]; exact shr_1, by dsimp only; rw [shr_0, shr_1]; exact fr2_01⟩
  · obtain ⟨p, r⟩ := s
    obtain ⟨j1, j2, j3, j4, j5⟩ := hj
    dsimp only at j1 j2 j3 j4 j5 ⊢
    have hcp := cT_f1 hk hc j1
    obtain ⟨k1, k2, k3, k4⟩ := cT_tick hcp hm hT hi r
    have hany := cT_any hcp hT hi
    by_cases ha : anyB (q_th (kL L off nt i)) nt = true
    · have e27 : ∀ a b, a = 28 ∨ a = 32 → (stL (q_m c) 46 (tkl p k i nt) r).2 a b = r a b := fun a b z => (c_stl hm 46 (tkl p k i nt) r (kL L off nt i) (cS_of hcp.1 (fun a b z => tkl_ne (by omega) (by omega) (by omega) nt)) (cR_of hcp.2.1 (fun b => tkl_ne (by omega) (by omega) (by omega) nt)) (c_load hT hi hcp.2.2.2.1 (fun n hn => (hcp.2.2.2.2 n hn).2)).1 (by have := pot_le (a := q_am (kL L off nt i)) (N := 5) (fun n _ => (kL_bd (off := off) hT hi n).2.1); omega)).2.2 a b (by omega) (by omega) (by omega) (by omega)
      have hB := c_CB k1.1 k1.2.1 k1.2.2.1
      have hr := rtm_q (b := d_most c (kL L off nt) i) k1 (by rw [e27 28 0 (by simp), e27 28 1 (by simp)]; exact j5) (q_m c) (Nat.le_refl _)
      have hr' : fr2 (rtmF (stL (q_m c) 46 (tkl p k i nt) r).1 (stL (q_m c) 46 (tkl p k i nt) r).2 28 (q_m c) 28 0) (rtmF (stL (q_m c) 46 (tkl p k i nt) r).1 (stL (q_m c) 46 (tkl p k i nt) r).2 28 (q_m c) 28 1) (d_most c (kL L off nt) (i + 1)) 1000000000000 := hr
      have e32 : ∀ b, rtmF (stL (q_m c) 46 (tkl p k i nt) r).1 (stL (q_m c) 46 (tkl p k i nt) r).2 28 (q_m c) 32 b = r 32 b := fun b => by rw [rtmF_ne (by decide) (by decide), e27 32 b (by simp)]
      have hg2 : g1 (rtmF (stL (q_m c) 46 (tkl p k i nt) r).1 (stL (q_m c) 46 (tkl p k i nt) r).2 28 (q_m c)) ml := g1_tr (fun a b x1 x2 x3 x4 x5 x6 x7 x8 x9 => rtmF_ne x2 x7 _) (g1_tr k3 j2)
      have hcmp := fr2_lt hr' hb (Nat.le_refl _)
      rw [← j3, ← j4, ← e32 0, ← e32 1] at hcmp
      by_cases hlt : d_most c (kL L off nt) (i + 1) < b
      · right
        refine ⟨((stL (q_m c) 46 (tkl p k i nt) r).1, rtmF (stL (q_m c) 46 (tkl p k i nt) r).1 (stL (q_m c) 46 (tkl p k i nt) r).2 28 (q_m c)), hd b_75_22 ?_, f1_tr k2 j1, hg2, by dsimp only; rw [e32]; exact j3, by dsimp only; rw [e32]; exact j4, hr'⟩
        simp only [b_75_e, b_75_72, b_75_78, e_aloadr_0, g_75_26, e_lload_2, e_lload_4, cc_Share_become_0, cc_Share_become_1, cc_Share_become_2, cc_Share_become_3, lay_27, lay_28, lay_30, lay_31, lay_32, lay_43, lay_44, lay_46, lay_49, lay_60, Option.toList_some, Option.toList_none, List.cons_append, List.nil_append, g_68_26, kl_0, kl_1, k_0, e_istore_6, e_kpi, e_kpr, e_kpl, e_kpd, e_jsr, e_iload_6, k_24, e_icmp_ge, e_aloadr_1, cc_Day_takeLoads_0, cc_Day_takeLoads_1, cc_Day_takeLoads_2, cc_Day_takeLoads_3, e_if_eq, g_64_26, cc_Circuit_settle_0, cc_Circuit_settle_1, cc_Circuit_settle_2, cc_Circuit_settle_3, cc_Circuit_raiseToMost_0, cc_Circuit_raiseToMost_1, cc_Circuit_raiseToMost_2, cc_Circuit_raiseToMost_3, cc_Share_isBelow_0, cc_Share_isBelow_1, cc_Share_isBelow_2, cc_Share_isBelow_3, e_if_ne, e_ret, e_iinc_6, e_goto, eq_self, le24 hi, cc_Day_takeLoads_0 hk hi hcp.2.2.1 hT.1 (fun n hn => (hcp.2.2.2.2 n hn).1), hany, ha, cc_Circuit_settle_0 k4, cc_Circuit_raiseToMost_0 lay_28 (show ¬ 28 = 43 by decide) hB.1 hB.2.1, cc_Share_isBelow_0 lay_28 lay_32, hcmp, hlt, not_true_eq_false, not_false_eq_true, if_true, if_false, true_or, or_true, false_or, or_false, true_and, and_true, false_and, and_false, and_self, or_self, reduceIte, Bool.false_eq_true, i10, i01, e_inc1]
      · left
        refine ⟨(stL (q_m c) 46 (tkl p k i nt) r).1, rtmF (stL (q_m c) 46 (tkl p k i nt) r).1 (stL (q_m c) 46 (tkl p k i nt) r).2 28 (q_m c), hd b_75_22 ?_, f1_tr k2 j1, hg2, _, hr', Or.inr ⟨by grind, ?_⟩⟩
        · simp only [b_75_e, b_75_72, b_75_78, e_aloadr_0, g_75_26, e_lload_2, e_lload_4, cc_Share_become_0, cc_Share_become_1, cc_Share_become_2, cc_Share_become_3, lay_27, lay_28, lay_30, lay_31, lay_32, lay_43, lay_44, lay_46, lay_49, lay_60, Option.toList_some, Option.toList_none, List.cons_append, List.nil_append, g_68_26, kl_0, kl_1, k_0, e_istore_6, e_kpi, e_kpr, e_kpl, e_kpd, e_jsr, e_iload_6, k_24, e_icmp_ge, e_aloadr_1, cc_Day_takeLoads_0, cc_Day_takeLoads_1, cc_Day_takeLoads_2, cc_Day_takeLoads_3, e_if_eq, g_64_26, cc_Circuit_settle_0, cc_Circuit_settle_1, cc_Circuit_settle_2, cc_Circuit_settle_3, cc_Circuit_raiseToMost_0, cc_Circuit_raiseToMost_1, cc_Circuit_raiseToMost_2, cc_Circuit_raiseToMost_3, cc_Share_isBelow_0, cc_Share_isBelow_1, cc_Share_isBelow_2, cc_Share_isBelow_3, e_if_ne, e_ret, e_iinc_6, e_goto, eq_self, le24 hi, cc_Day_takeLoads_0 hk hi hcp.2.2.1 hT.1 (fun n hn => (hcp.2.2.2.2 n hn).1), hany, ha, cc_Circuit_settle_0 k4, cc_Circuit_raiseToMost_0 lay_28 (show ¬ 28 = 43 by decide) hB.1 hB.2.1, cc_Share_isBelow_0 lay_28 lay_32, hcmp, hlt, not_true_eq_false, not_false_eq_true, if_true, if_false, true_or, or_true, false_or, or_false, true_and, and_true, false_and, and_false, and_self, or_self, reduceIte, Bool.false_eq_true, i10, i01, e_inc1]
        · have := d_most_mono (c := c) (l := kL L off nt) (t := i + 1) (24 - (i + 1))
          rwa [show i + 1 + (24 - (i + 1)) = 24 by omega] at this
    · right
      refine ⟨(tkl p k i nt, r), hd b_75_22 ?_, f1_tr f1_tkl j1, j2, j3, j4, by rw [d_most_z (anyB_f ha)]; exact j5⟩
      simp only [b_75_e, b_75_72, b_75_78, e_aloadr_0, g_75_26, e_lload_2, e_lload_4, cc_Share_become_0, cc_Share_become_1, cc_Share_become_2, cc_Share_become_3, lay_27, lay_28, lay_30, lay_31, lay_32, lay_43, lay_44, lay_46, lay_49, lay_60, Option.toList_some, Option.toList_none, List.cons_append, List.nil_append, g_68_26, kl_0, kl_1, k_0, e_istore_6, e_kpi, e_kpr, e_kpl, e_kpd, e_jsr, e_iload_6, k_24, e_icmp_ge, e_aloadr_1, cc_Day_takeLoads_0, cc_Day_takeLoads_1, cc_Day_takeLoads_2, cc_Day_takeLoads_3, e_if_eq, g_64_26, cc_Circuit_settle_0, cc_Circuit_settle_1, cc_Circuit_settle_2, cc_Circuit_settle_3, cc_Circuit_raiseToMost_0, cc_Circuit_raiseToMost_1, cc_Circuit_raiseToMost_2, cc_Circuit_raiseToMost_3, cc_Share_isBelow_0, cc_Share_isBelow_1, cc_Share_isBelow_2, cc_Share_isBelow_3, e_if_ne, e_ret, e_iinc_6, e_goto, eq_self, le24 hi, cc_Day_takeLoads_0 hk hi hcp.2.2.1 hT.1 (fun n hn => (hcp.2.2.2.2 n hn).1), hany, ha, not_true_eq_false, not_false_eq_true, if_true, if_false, true_or, or_true, false_or, or_false, true_and, and_true, false_and, and_false, and_self, or_self, reduceIte, Bool.false_eq_true, i10, i01, e_inc1]
  · obtain ⟨p, r⟩ := s
    obtain ⟨j1, j2, j3, j4, j5⟩ := hj
    dsimp only at j1 j2 j3 j4 j5 ⊢
    refine ⟨p, r, hd b_75_22 ?_, j1, j2, _, j5, Or.inl rfl⟩
    simp only [b_75_e, b_75_72, b_75_78, e_aloadr_0, g_75_26, e_lload_2, e_lload_4, cc_Share_become_0, cc_Share_become_1, cc_Share_become_2, cc_Share_become_3, lay_27, lay_28, lay_30, lay_31, lay_32, lay_43, lay_44, lay_46, lay_49, lay_60, Option.toList_some, Option.toList_none, List.cons_append, List.nil_append, g_68_26, kl_0, kl_1, k_0, e_istore_6, e_kpi, e_kpr, e_kpl, e_kpd, e_jsr, e_iload_6, k_24, e_icmp_ge, e_aloadr_1, cc_Day_takeLoads_0, cc_Day_takeLoads_1, cc_Day_takeLoads_2, cc_Day_takeLoads_3, e_if_eq, g_64_26, cc_Circuit_settle_0, cc_Circuit_settle_1, cc_Circuit_settle_2, cc_Circuit_settle_3, cc_Circuit_raiseToMost_0, cc_Circuit_raiseToMost_1, cc_Circuit_raiseToMost_2, cc_Circuit_raiseToMost_3, cc_Share_isBelow_0, cc_Share_isBelow_1, cc_Share_isBelow_2, cc_Share_isBelow_3, e_if_ne, e_ret, e_iinc_6, e_goto, eq_self, le2424, not_true_eq_false, not_false_eq_true, if_true, if_false, true_or, or_true, false_or, or_false, true_and, and_true, false_and, and_false, and_self, or_self, reduceIte, Bool.false_eq_true, i10, i01]
end Ms
