/-! LEAST PEAK; the class's spread, findPeak -/
def d_off (C nt way n : Nat) : Nat := way / C ^ (nt - 1 - n) % C
def d_pk (c : qC) (L : Nat → Nat → Int32) (nt C : Nat) : Nat → Option (Rat × Nat)
  | 0 => none
  | w + 1 => match d_pk c L nt C w with
    | none => some (d_most c (kL L (d_off C nt w) nt) 24, w)
    | some b => if d_most c (kL L (d_off C nt w) nt) 24 < b.1 then some (d_most c (kL L (d_off C nt w) nt) 24, w) else some b
theorem q_g_le {c : qC} {l : qL} (hm : 0 < q_m c) (hP : ∀ i k, i < k → k < q_m c → q_P c i < q_P c k) (h0 : 0 ≤ sumI (q_am l) 5) (ha : ∀ n, n < 5 → (q_am l n).natAbs ≤ 400) {j : Nat} (hj : j < q_m c) (hF : q_F c l j = true) : q_g c l j ≤ 2000 := by
  have hsR : 0 ≤ sumR (q_a l) 5 := by rw [sumR_qa]; exact qI_le.mpr h0
  obtain ⟨k1, k2⟩ := q_S_ok (l := l) hm hP hsR
  have hS := ((q_F_ok (l := l) hm hP hsR).2 j hj).1 hF
  have hn := netS (N := 5) (a := q_a l) (y := q_y l) hP k1.1
  have hsum := net_sum hn
  rw [bS_sum hP hm, sumR_qa] at hsum
  have hle : qI (sumI (q_am l) 5) ≤ 2000 := by
    have : sumI (q_am l) 5 ≤ 2000 := by have := sumI_bd (f := q_am l) (k := 5) ha; omega
    have := qI_le.mpr this
    exact this
  have key : ∀ (f : Nat → Rat) (m : Nat), (∀ i, i < m → 0 ≤ f i) → ∀ j, j < m → f j ≤ sumR f m := by
    intro f m
    induction m with
    | zero => intro _ j hj; omega
    | succ m ih =>
      intro h j hj
      rw [sumR]
      have h1 := h m (by omega)
      by_cases e : j = m
      · subst e
        have := sumR_nn (f := f) (n := j) (fun i hi => h i (by omega))
        grind
      · have := ih (fun i hi => h i (by omega)) j (by omega)
        grind
  have := key (fun j => if q_S c l j = true then gS (q_P c) (q_S c l) (q_m c) 5 (q_a l) (q_y l) j else 0) (q_m c) (fun i hi => by
    split
    · rename_i z; exact k2 i hi z
    · exact Rat.le_refl) j hj
  rw [if_pos hS, hsum] at this
  show gS (q_P c) (q_S c l) (q_m c) 5 (q_a l) (q_y l) j ≤ 2000
  grind
theorem d_most_le {c : qC} {L : Nat → Nat → Int32} {off : Nat → Nat} {nt : Nat} (hm : 0 < q_m c) (hP : ∀ i k, i < k → k < q_m c → q_P c i < q_P c k) (hT : LiT L nt) : ∀ t, t ≤ 24 → d_most c (kL L off nt) t ≤ 2000 := by
  intro t
  induction t with
  | zero => intro _; show (0 : Rat) ≤ 2000; decide
  | succ t ih =>
    intro ht
    have h1 := ih (by omega)
    have hb := fun n (_ : n < 5) => (kL_bd (off := off) hT (show t < 24 by omega) n).2.1
    have hp : pot (q_am (kL L off nt t)) 5 ≤ 9 * 5 := pot_le hb
    have h0 := q_bk_none (q_sol_end (c := c) 46 (kL L off nt t) (by omega))
    have hb2 := q_sol_bd (c := c) 46 (kL L off nt t) hb
    rw [d_most]
    have : ∀ i, i ≤ q_m c → d_mT c (q_end c (kL L off nt t)) (d_most c (kL L off nt) t) i ≤ 2000 := by
      intro i
      induction i with
      | zero => intro _; exact h1
      | succ i ih2 =>
        intro hi
        rw [d_mT]
        split
        · rename_i z; exact q_g_le hm hP h0 hb2 (by omega) z.1
        · exact ih2 (by omega)
    exact this _ (Nat.le_refl _)
theorem nI_dm {a C : Nat} (ha : a < 243) (hC : C = 2 ∨ C = 3) : nI a - nI a / nI C * nI C = nI (a % C) ∧ nI a / nI C = nI (a / C) := by
  have k : ∀ a, a < 243 → (nI a - nI a / nI 2 * nI 2 = nI (a % 2) ∧ nI a / nI 2 = nI (a / 2)) ∧ (nI a - nI a / nI 3 * nI 3 = nI (a % 3) ∧ nI a / nI 3 = nI (a / 3)) := by decide +kernel
  rcases hC with rfl | rfl
  · exact (k a ha).1
  · exact (k a ha).2
theorem dec_sub {x : Int32} : x + Int32.ofInt (-1) = x - 1 := (Int32.sub_eq_add_neg x 1).symm
theorem nI_mul {a b : Nat} : nI a * nI b = nI (a * b) := (Int32.ofNat_mul a b).symm
section Pk
variable {E : aE} {q : Nat → Nat → Int32} {ml : Nat → Nat → Int64} {c : qC} {L : Nat → Nat → Int32} {nt : Nat}
theorem y_spread {C way : Nat} (hC : C = 2 ∨ C = 3) (h5 : q 1 5 = nI nt) (hn5 : nt ≤ 5) (hw : way < 243) : ∃ p, ev E 86 (am_B 86 0) [.ref 26, .int (nI way), .int (nI C), am_dm, am_dm] [] (HH q ml) = some (none, HH p ml) ∧ (∀ a b, ¬ a = 33 → p a b = q a b) ∧ ∀ n, n < nt → p 33 n = nI (d_off C nt way n) := by
  simp only [b_86_e, b_86_34, b_86_35, b_86_46, b_86_47, b_86_54, e_iload_1, e_istore_3, e_kpi, e_kpr, e_kpl, e_kpd, e_aloadr_0, g_73_26, g_133_1, k_1, e_isub, e_istore_4, e_jsr, e_iload_4, e_if_lt, g_76_26, e_iload_2, e_if_le, e_iload_3, e_irem, e_goto, k_0, is_2, is_5, is_33, is_35, is_36, is_41, is_42, is_tp, is_ta, is_sc, is_po, e_idiv, e_iinc_4, e_ret, eq_self, h5]
  have hne : ¬ nI C = 0 := nI_ne0 (by omega) (by omega)
  have hnl : (nI C ≤ 0) = False := eq_false (nI_nle (by omega) (by omega))
  obtain ⟨p, hl, hJ⟩ := loop_inv (fun i (s : Nat → Nat → Int32) => ev E 86 (am_B 86 (Int.toNat 13)) [.ref 26, .int (nI way), .int (nI C), .int (nI (way / C ^ i)), .int (nI (nt - i) - 1)] [] (HH s ml)) (fun i s => (∀ a b, ¬ a = 33 → s a b = q a b) ∧ ∀ n, nt - i ≤ n → n < nt → s 33 n = nI (d_off C nt way n)) nt (fun i p hi hj => by
    obtain ⟨j1, j2⟩ := hj
    have e1 : nI (nt - i) - 1 = nI (nt - i - 1) := by rw [show nt - i = (nt - i - 1) + 1 by omega, nI_pred]; rfl
    have hj5 : nt - i - 1 < 5 := by omega
    have hq : way / C ^ i < 243 := Nat.lt_of_le_of_lt (Nat.div_le_self _ _) hw
    obtain ⟨m1, m2⟩ := nI_dm hq hC
    rw [m2] at m1
    have e2 : way / C ^ (i + 1) = way / C ^ i / C := by rw [Nat.div_div_eq_div_mul, Nat.pow_succ]
    have e3 : nI (nt - i - 1) + Int32.ofInt (-1) = nI (nt - (i + 1)) - 1 := by rw [dec_sub, show nt - i - 1 = nt - (i + 1) by omega]
    refine ⟨am_up p 33 (nt - i - 1) (nI (way / C ^ i % C)), hd b_86_13 ?_, fun a b h => by rw [am_upa, if_neg (fun z => h z.1)]; exact j1 a b h, fun n h1 h2 => ?_⟩
    · rw [e1, e2, ← e3]
      simp only [b_86_e, b_86_34, b_86_35, b_86_46, b_86_47, b_86_54, e_iload_1, e_istore_3, e_kpi, e_kpr, e_kpl, e_kpd, e_aloadr_0, g_73_26, g_133_1, k_1, e_isub, e_istore_4, e_jsr, e_iload_4, e_if_lt, g_76_26, e_iload_2, e_if_le, e_iload_3, e_irem, e_goto, k_0, is_2, is_5, is_33, is_35, is_36, is_41, is_42, is_tp, is_ta, is_sc, is_po, e_idiv, e_iinc_4, e_ret, eq_self, lt_sN hj5, hj5, hnl, e_irem hne, e_idiv hne, m1, m2, not_true_eq_false, not_false_eq_true, if_true, if_false, true_or, or_true, false_or, or_false, true_and, and_true, false_and, and_false, and_self, or_self, reduceIte, Bool.false_eq_true, i10, i01]
    · rw [am_upa]
      by_cases e : n = nt - i - 1
      · rw [if_pos ⟨rfl, e⟩]
        unfold d_off
        rw [show nt - 1 - n = i by omega]
      · rw [if_neg (fun z => e z.2)]
        exact j2 n (by omega) h2) q ⟨fun _ _ _ => rfl, fun n h1 h2 => by omega⟩
  refine ⟨p, ?_, hJ.1, fun n hn => hJ.2 n (by omega) hn⟩
  have h0 : nI way = nI (way / C ^ 0) := by rw [Nat.pow_zero, Nat.div_one]
  have hz : (nI (nt - nt) - 1 < 0) = True := by rw [Nat.sub_self]; exact eq_true (by decide +kernel)
  have hl2 := hl
  rw [← h0, Nat.sub_zero] at hl2
  refine Eq.trans hl2 (hd b_86_13 ?_)
  simp only [b_86_e, b_86_34, b_86_35, b_86_46, b_86_47, b_86_54, e_iload_1, e_istore_3, e_kpi, e_kpr, e_kpl, e_kpd, e_aloadr_0, g_73_26, g_133_1, k_1, e_isub, e_istore_4, e_jsr, e_iload_4, e_if_lt, g_76_26, e_iload_2, e_if_le, e_iload_3, e_irem, e_goto, k_0, is_2, is_5, is_33, is_35, is_36, is_41, is_42, is_tp, is_ta, is_sc, is_po, e_idiv, e_iinc_4, e_ret, eq_self, hz, not_true_eq_false, not_false_eq_true, if_true, if_false, true_or, or_true, false_or, or_false, true_and, and_true, false_and, and_false, and_self, or_self, reduceIte, Bool.false_eq_true, i10, i01]
theorem fr2_far : fr2 1000000000 1 1000000000 1000000000000 := ⟨1000000000, 1, rfl, rfl, by decide, by decide, by decide, by rw [qI_1]; have : qI 1000000000 = 1000000000 := rfl; rw [this]; grind⟩
theorem fr2_nfar : fr2 (-1000000000) 1 (-1000000000) 1000000000000 := ⟨-1000000000, 1, rfl, rfl, by decide, by decide, by decide, by rw [qI_1]; have : qI (-1000000000) = -1000000000 := rfl; rw [this]; grind⟩
/-- cells of the peak d -/
def f3 (d : Nat) (p q : Nat → Nat → Int32) : Prop := ∀ a b, ¬ a = 33 → ¬ a = 34 → ¬ a = 35 → ¬ a = 36 → ¬ a = 37 → ¬ a = 40 → ¬ a = 41 → ¬ a = 42 → ¬ (a = 26 ∧ (b = 2 ∨ b = 3)) → ¬ a = 45 + 3 * d → ¬ a = 47 + 3 * d → p a b = q a b
def g3 (d : Nat) (r s : Nat → Nat → Int64) : Prop := ∀ a b, ¬ a = 27 → ¬ a = 28 → ¬ a = 31 → ¬ a = 32 → ¬ a = 38 → ¬ a = 39 → ¬ a = 43 → ¬ a = 44 → ¬ a = 60 → ¬ a = 46 + 3 * d → r a b = s a b
def d_cur (o : Option (Rat × Nat)) : Rat := match o with
  | none => 1000000000
  | some b => b.1
theorem pow_lt {d nt : Nat} (hd2 : d < 2) (h : nt ≤ 5) : (d + 2) ^ nt ≤ 243 := by
  rcases (show d = 0 ∨ d = 1 by omega) with rfl | rfl <;> rcases (show nt = 0 ∨ nt = 1 ∨ nt = 2 ∨ nt = 3 ∨ nt = 4 ∨ nt = 5 by omega) with rfl | rfl | rfl | rfl | rfl | rfl <;> decide
theorem y_peak {n d : Nat} (hd2 : d < 2) (hl : LI q n nt) (hm : 0 < q_m (kC (LN q) (-9) n)) : ∃ p r, ev E 85 (am_B 85 0) [.ref 26, .int (nI (d + 1)), .ref (45 + 3 * d), am_dm, am_dm, am_dm] [] (HH q ml) = some (none, HH p r) ∧ f3 d p q ∧ g3 d r ml ∧ p (45 + 3 * d) 2 = 1 ∧ ∃ v w, d_pk (kC (LN q) (-9) n) (LN q) nt (d + 2) ((d + 2) ^ nt) = some (v, w) ∧ fr2 (r (46 + 3 * d) 0) (r (46 + 3 * d) 1) v 1000000000000 ∧ ∀ k, k < nt → p (47 + 3 * d) k = nI (d_off (d + 2) nt w k) := by
  obtain ⟨hS, hR⟩ := LI_S hl (-9)
  obtain ⟨⟨l1, l2⟩, l3, l4, l5, l6⟩ := id hl
  have hnt5 := l5.1
  have hpw := pow_lt hd2 hnt5
  generalize hcc : kC (LN q) (-9) n = c at *
  have hlay : am_LAY[46 + 3 * d]? = some (.inl 4) := lay_pm hd2
  -- ways
  obtain ⟨_, hways, _⟩ := loop_inv (fun i (_ : Unit) => ev E 85 (am_B 85 (Int.toNat 5)) [.ref 26, .int (nI (d + 1)), .ref (45 + 3 * d), .int (nI ((d + 2) ^ i)), .int (nI i), am_dm] [] (HH q ml)) (fun _ _ => True) nt (fun i _ hi _ => ⟨(), hd b_85_5 (by
    have e : nI ((d + 2) ^ i) * nI (d + 1 + 1) = nI ((d + 2) ^ (i + 1)) := by rw [nI_mul, Nat.pow_succ]
    simp only [b_85_e, b_85_29, b_85_150, b_85_156, k_1, e_istore_3, e_kpi, e_kpr, e_kpl, e_kpd, k_0, e_istore_4, e_jsr, e_iload_4, e_aloadr_0, g_73_26, g_133_1, e_icmp_ge, e_iload_3, e_iload_1, e_iadd, e_imul, e_iinc_4, e_goto, k_m9, cc_Day_takeStations_0, cc_Day_takeStations_1, cc_Day_takeStations_2, cc_Day_takeStations_3, Option.toList_some, Option.toList_none, List.cons_append, List.nil_append, e_aloadr_2, g_192_45, g_192_48, gs_f192, kl_1000000000, kl_1, cc_Share_become_0, cc_Share_become_1, cc_Share_become_2, cc_Share_become_3, lay_27, lay_28, lay_30, lay_31, lay_32, lay_43, lay_44, lay_46, lay_49, lay_60, g_76_26, g_256_27, g_256_28, g_256_30, g_256_31, g_256_32, g_256_43, g_256_44, g_256_46, g_256_49, g_256_60, gS_0, g_257_27, g_257_28, g_257_30, g_257_31, g_257_32, g_257_43, g_257_44, g_257_46, g_257_49, g_257_60, gS_1, g_68_26, cc_Share_isBelow_0, cc_Share_isBelow_1, cc_Share_isBelow_2, cc_Share_isBelow_3, e_if_eq, e_istore_5, e_iload_5, k_5, g_193_45, g_193_48, gs_f193, il_2, il_5, il_33, il_35, il_36, il_41, il_42, il_tp, il_ta, il_sc, il_po, ik_2_0, ik_2_1, ik_2_2, ik_2_3, ik_2_4, is_2, is_5, is_33, is_35, is_36, is_41, is_42, is_tp, is_ta, is_sc, is_po, e_iinc_5, p_194_45, p_194_48, ps_f194, e_ret, eq_self, l2, lec (show nt < 1000 by omega) hi, nI_1, e, not_true_eq_false, not_false_eq_true, if_true, if_false, true_or, or_true, false_or, or_false, true_and, and_true, false_and, and_false, and_self, or_self, reduceIte, Bool.false_eq_true, i10, i01, e_inc1]), trivial⟩) () trivial
  have hst : ∃ p r, ev E 85 (am_B 85 (Int.toNat 49)) [.ref 26, .int (nI (d + 1)), .ref (45 + 3 * d), .int (nI ((d + 2) ^ nt)), .int (nI 0), am_dm] [] (HH (tks q (-9) n) (shr ml (46 + 3 * d) 1000000000 1)) = some (none, HH p r) ∧ f3 d p q ∧ g3 d r ml ∧ p (45 + 3 * d) 2 = 1 ∧ ∃ v w, d_pk c (LN q) nt (d + 2) ((d + 2) ^ nt) = some (v, w) ∧ fr2 (r (46 + 3 * d) 0) (r (46 + 3 * d) 1) v 1000000000000 ∧ ∀ k, k < nt → p (47 + 3 * d) k = nI (d_off (d + 2) nt w k) := by
    obtain ⟨s', hlp, hJ⟩ := loop_inv (fun i (s : (Nat → Nat → Int32) × (Nat → Nat → Int64) × Value) => ev E 85 (am_B 85 (Int.toNat 49)) [.ref 26, .int (nI (d + 1)), .ref (45 + 3 * d), .int (nI ((d + 2) ^ nt)), .int (nI i), s.2.2] [] (HH s.1 s.2.1)) (fun i s => (∀ a b, ¬ a = 33 → ¬ a = 37 → ¬ a = 40 → ¬ a = 41 → ¬ a = 42 → ¬ (a = 26 ∧ (b = 2 ∨ b = 3)) → ¬ a = 47 + 3 * d → s.1 a b = tks q (-9) n a b) ∧ g3 d s.2.1 ml ∧ fr2 (s.2.1 (46 + 3 * d) 0) (s.2.1 (46 + 3 * d) 1) (d_cur (d_pk c (LN q) nt (d + 2) i)) 1000000000000 ∧ (0 < i → (d_pk c (LN q) nt (d + 2) i).isSome = true) ∧ ∀ v w, d_pk c (LN q) nt (d + 2) i = some (v, w) → ∀ k, k < nt → s.1 (47 + 3 * d) k = nI (d_off (d + 2) nt w k)) ((d + 2) ^ nt) (fun i s hi hj => by
      obtain ⟨p, r, x⟩ := s
      obtain ⟨j1, j2, j3, j3b, j4⟩ := hj
      dsimp only at j1 j2 j3 j3b j4 ⊢
      have e15 : p 1 5 = nI nt := by rw [j1 1 5 (by decide) (by decide) (by decide) (by decide) (by decide) (by decide) (by omega), tks_ne (by decide) (by decide) (by decide), l2]
      have hC : d + 2 = 2 ∨ d + 2 = 3 := by omega
      obtain ⟨p1, s1, s2, s3⟩ := y_spread (E := E) (ml := r) (q := p) (C := d + 2) (way := i) hC e15 hnt5 (by omega)
      have cc1 : ∀ {M_ : Nat} {c_ : List Instr} {L_ : List Value}, ev E M_ (.invokevirtual 86 :: c_) L_ (.int (nI (d + 2)) :: .int (nI i) :: .ref 26 :: []) (HH p r) = ev E M_ c_ L_ [] (HH p1 r) := fun {M_} {c_} {L_} => e_inv (as := [.ref 26, .int (nI i), .int (nI (d + 2))]) (S := []) rfl rfl (Nat.le_of_ble_eq_true rfl) (rfl) (s1)
      have e33 : ∀ k, k < nt → oF p1 33 k = d_off (d + 2) nt i k := fun k hk => by unfold oF; rw [s3 k hk]; exact nI_cl9 (by have := Nat.mod_lt (i / (d + 2) ^ (nt - 1 - k)) (show 0 < d + 2 by omega); unfold d_off; omega)
      have hdo : ∀ k, d_off (d + 2) nt i k < 3 := fun k => by have := Nat.mod_lt (i / (d + 2) ^ (nt - 1 - k)) (show 0 < d + 2 by omega); unfold d_off; omega
      have ep1 : ∀ a b, a ≤ 25 ∨ (34 ≤ a ∧ a ≤ 36) → p1 a b = tks q (-9) n a b := fun a b z => by rw [s2 a b (by omega), j1 a b (by omega) (by omega) (by omega) (by omega) (by omega) (by omega) (by omega)]
      have hcT : cT p1 c (LN q) (d_off (d + 2) nt i) nt 33 := by
        refine ⟨cS_of hS (fun a b z => ep1 a b (by omega)), cR_of hR (fun b => ep1 2 b (by omega)), by rw [s2 1 5 (by decide)]; exact e15, fun k hk u => ?_, fun k hk => ⟨⟨by rw [e33 k hk]; exact s3 k hk, by rw [e33 k hk]; have := hdo k; omega⟩, e33 k hk⟩⟩
        have a1 : tP p1 k u = tP (tks q (-9) n) k u := ep1 _ _ (by omega)
        have a2 : tA p1 k u = tA (tks q (-9) n) k u := ep1 _ _ (by omega)
        rw [a1, a2]
        exact LI_e f2_tks k hk u
      obtain ⟨p2, r2, m1, m2, m3, h, m4, m5⟩ := y_most (E := E) (ml := r) (k := 33) (U := r (46 + 3 * d) 0) (D := r (46 + 3 * d) 1) (Or.inr rfl) hcT hm l5 j3
      have cc2 : ∀ {M_ : Nat} {c_ : List Instr} {L_ : List Value}, ev E M_ (.invokevirtual 75 :: c_) L_ (.long (r (46 + 3 * d) 1) :: .long (r (46 + 3 * d) 0) :: .ref 33 :: .ref 26 :: []) (HH p1 r) = ev E M_ c_ L_ [] (HH p2 r2) := fun {M_} {c_} {L_} => e_inv (as := [.ref 26, .ref 33, .long (r (46 + 3 * d) 0), .long (r (46 + 3 * d) 1)]) (S := []) rfl rfl (Nat.le_of_ble_eq_true rfl) (rfl) (m1)
      have er : ∀ b, r2 (46 + 3 * d) b = r (46 + 3 * d) b := fun b => m3 _ _ (by omega) (by omega) (by omega) (by omega) (by omega) (by omega) (by omega) (by omega) (by omega)
      have hcmp := fr2_lt m4 j3 (Nat.le_refl _)
      rw [← er 0, ← er 1] at hcmp
      have hiff : (h < d_cur (d_pk c (LN q) nt (d + 2) i)) = (d_most c (kL (LN q) (d_off (d + 2) nt i) nt) 24 < d_cur (d_pk c (LN q) nt (d + 2) i)) := by
        rcases m5 with z | ⟨z1, z2⟩
        · rw [z]
        · apply propext; constructor <;> intro y <;> grind
      have hml := d_most_le (c := c) (off := d_off (d + 2) nt i) hm hS.2.2.2 l5 24 (Nat.le_refl _)
      have ep2 : ∀ a b, ¬ a = 33 → ¬ a = 37 → ¬ a = 40 → ¬ a = 41 → ¬ a = 42 → ¬ (a = 26 ∧ (b = 2 ∨ b = 3)) → ¬ a = 47 + 3 * d → p2 a b = tks q (-9) n a b := fun a b x1 x2 x3 x4 x5 x6 x7 => by rw [m2 a b x2 x3 x4 x5 x6, s2 a b x1, j1 a b x1 x2 x3 x4 x5 x6 x7]
      have gr2 : g3 d r2 ml := fun a b x1 x2 x3 x4 x5 x6 x7 x8 x9 x10 => by rw [m3 a b x1 x2 x3 x4 x5 x6 x7 x8 x9, j2 a b x1 x2 x3 x4 x5 x6 x7 x8 x9 x10]
      have hwl : (nI ((d + 2) ^ nt) ≤ nI i) = False := eq_false (fun z => by have := (nI_leI (by omega) (by omega)).mp z; omega)
      by_cases hlt : d_most c (kL (LN q) (d_off (d + 2) nt i) nt) 24 < d_cur (d_pk c (LN q) nt (d + 2) i)
      · -- better
        have hh : h = d_most c (kL (LN q) (d_off (d + 2) nt i) nt) 24 := by
          rcases m5 with z | ⟨z1, z2⟩
          · exact z
          · exfalso; grind
        have hdp : d_pk c (LN q) nt (d + 2) (i + 1) = some (d_most c (kL (LN q) (d_off (d + 2) nt i) nt) 24, i) := by
          rw [d_pk]
          cases hq : d_pk c (LN q) nt (d + 2) i with
          | none => rfl
          | some b => rw [hq] at hlt; exact if_pos hlt
        obtain ⟨p3, hcp, hJ3⟩ := loop_inv (fun k (s : Nat → Nat → Int32) => ev E 85 (am_B 85 (Int.toNat 124)) [.ref 26, .int (nI (d + 1)), .ref (45 + 3 * d), .int (nI ((d + 2) ^ nt)), .int (nI i), .int (nI k)] [] (HH s (shr r2 (46 + 3 * d) (r2 28 0) (r2 28 1)))) (fun k s => (∀ a b, ¬ a = 47 + 3 * d → s a b = p2 a b) ∧ ∀ u, u < k → s (47 + 3 * d) u = p2 33 u) 5 (fun k s hk hj => by
          have e33 : s 33 k = p2 33 k := hj.1 33 k (by omega)
          refine ⟨am_up s (47 + 3 * d) k (p2 33 k), hd b_85_124 ?_, fun a b x => by rw [am_upa, if_neg (fun z => x z.1)]; exact hj.1 a b x, fun u hu => ?_⟩
          · simp only [b_85_e, b_85_29, b_85_150, b_85_156, k_1, e_istore_3, e_kpi, e_kpr, e_kpl, e_kpd, k_0, e_istore_4, e_jsr, e_iload_4, e_aloadr_0, g_73_26, g_133_1, e_icmp_ge, e_iload_3, e_iload_1, e_iadd, e_imul, e_iinc_4, e_goto, k_m9, cc_Day_takeStations_0, cc_Day_takeStations_1, cc_Day_takeStations_2, cc_Day_takeStations_3, Option.toList_some, Option.toList_none, List.cons_append, List.nil_append, e_aloadr_2, g_192_45, g_192_48, gs_f192, kl_1000000000, kl_1, cc_Share_become_0, cc_Share_become_1, cc_Share_become_2, cc_Share_become_3, lay_27, lay_28, lay_30, lay_31, lay_32, lay_43, lay_44, lay_46, lay_49, lay_60, g_76_26, g_256_27, g_256_28, g_256_30, g_256_31, g_256_32, g_256_43, g_256_44, g_256_46, g_256_49, g_256_60, gS_0, g_257_27, g_257_28, g_257_30, g_257_31, g_257_32, g_257_43, g_257_44, g_257_46, g_257_49, g_257_60, gS_1, g_68_26, cc_Share_isBelow_0, cc_Share_isBelow_1, cc_Share_isBelow_2, cc_Share_isBelow_3, e_if_eq, e_istore_5, e_iload_5, k_5, g_193_45, g_193_48, gs_f193, il_2, il_5, il_33, il_35, il_36, il_41, il_42, il_tp, il_ta, il_sc, il_po, ik_2_0, ik_2_1, ik_2_2, ik_2_3, ik_2_4, is_2, is_5, is_33, is_35, is_36, is_41, is_42, is_tp, is_ta, is_sc, is_po, e_iinc_5, p_194_45, p_194_48, ps_f194, e_ret, eq_self, le5 hk, hk, hd2, e33, not_true_eq_false, not_false_eq_true, if_true, if_false, true_or, or_true, false_or, or_false, true_and, and_true, false_and, and_false, and_self, or_self, reduceIte, Bool.false_eq_true, i10, i01, e_inc1]
          · rw [am_upa]
            by_cases e : u = k
            · rw [if_pos ⟨rfl, e⟩, e]
            · rw [if_neg (fun z => e z.2)]; exact hj.2 u (by omega)) p2 ⟨fun _ _ _ => rfl, fun u hu => by omega⟩
        refine ⟨(p3, shr r2 (46 + 3 * d) (r2 28 0) (r2 28 1), .int (nI 5)), hd b_85_49 ?_, ?_, ?_, ?_, fun _ => by rw [hdp]; rfl, fun v w hvw k hk => ?_⟩
        · have hcp2 := hcp
          have hend : ev E 85 (am_B 85 (Int.toNat 124)) [.ref 26, .int (nI (d + 1)), .ref (45 + 3 * d), .int (nI ((d + 2) ^ nt)), .int (nI i), .int (nI 5)] [] (HH p3 (shr r2 (46 + 3 * d) (r2 28 0) (r2 28 1))) = ev E 85 (am_B 85 (Int.toNat 49)) [.ref 26, .int (nI (d + 1)), .ref (45 + 3 * d), .int (nI ((d + 2) ^ nt)), .int (nI (i + 1)), .int (nI 5)] [] (HH p3 (shr r2 (46 + 3 * d) (r2 28 0) (r2 28 1))) := by
            refine hd b_85_124 ?_
            simp only [b_85_e, b_85_29, b_85_150, b_85_156, k_1, e_istore_3, e_kpi, e_kpr, e_kpl, e_kpd, k_0, e_istore_4, e_jsr, e_iload_4, e_aloadr_0, g_73_26, g_133_1, e_icmp_ge, e_iload_3, e_iload_1, e_iadd, e_imul, e_iinc_4, e_goto, k_m9, cc_Day_takeStations_0, cc_Day_takeStations_1, cc_Day_takeStations_2, cc_Day_takeStations_3, Option.toList_some, Option.toList_none, List.cons_append, List.nil_append, e_aloadr_2, g_192_45, g_192_48, gs_f192, kl_1000000000, kl_1, cc_Share_become_0, cc_Share_become_1, cc_Share_become_2, cc_Share_become_3, lay_27, lay_28, lay_30, lay_31, lay_32, lay_43, lay_44, lay_46, lay_49, lay_60, g_76_26, g_256_27, g_256_28, g_256_30, g_256_31, g_256_32, g_256_43, g_256_44, g_256_46, g_256_49, g_256_60, gS_0, g_257_27, g_257_28, g_257_30, g_257_31, g_257_32, g_257_43, g_257_44, g_257_46, g_257_49, g_257_60, gS_1, g_68_26, cc_Share_isBelow_0, cc_Share_isBelow_1, cc_Share_isBelow_2, cc_Share_isBelow_3, e_if_eq, e_istore_5, e_iload_5, k_5, g_193_45, g_193_48, gs_f193, il_2, il_5, il_33, il_35, il_36, il_41, il_42, il_tp, il_ta, il_sc, il_po, ik_2_0, ik_2_1, ik_2_2, ik_2_3, ik_2_4, is_2, is_5, is_33, is_35, is_36, is_41, is_42, is_tp, is_ta, is_sc, is_po, e_iinc_5, p_194_45, p_194_48, ps_f194, e_ret, eq_self, le55, not_true_eq_false, not_false_eq_true, if_true, if_false, true_or, or_true, false_or, or_false, true_and, and_true, false_and, and_false, and_self, or_self, reduceIte, Bool.false_eq_true, i10, i01, e_inc1]
          rw [← hend, ← hcp2]
          simp only [b_85_e, b_85_29, b_85_150, b_85_156, k_1, e_istore_3, e_kpi, e_kpr, e_kpl, e_kpd, k_0, e_istore_4, e_jsr, e_iload_4, e_aloadr_0, g_73_26, g_133_1, e_icmp_ge, e_iload_3, e_iload_1, e_iadd, e_imul, e_iinc_4, e_goto, k_m9, cc_Day_takeStations_0, cc_Day_takeStations_1, cc_Day_takeStations_2, cc_Day_takeStations_3, Option.toList_some, Option.toList_none, List.cons_append, List.nil_append, e_aloadr_2, g_192_45, g_192_48, gs_f192, kl_1000000000, kl_1, cc_Share_become_0, cc_Share_become_1, cc_Share_become_2, cc_Share_become_3, lay_27, lay_28, lay_30, lay_31, lay_32, lay_43, lay_44, lay_46, lay_49, lay_60, g_76_26, g_256_27, g_256_28, g_256_30, g_256_31, g_256_32, g_256_43, g_256_44, g_256_46, g_256_49, g_256_60, gS_0, g_257_27, g_257_28, g_257_30, g_257_31, g_257_32, g_257_43, g_257_44, g_257_46, g_257_49, g_257_60, gS_1, g_68_26, cc_Share_isBelow_0, cc_Share_isBelow_1, cc_Share_isBelow_2, cc_Share_isBelow_3, e_if_eq, e_istore_5, e_iload_5, k_5, g_193_45, g_193_48, gs_f193, il_2, il_5, il_33, il_35, il_36, il_41, il_42, il_tp, il_ta, il_sc, il_po, ik_2_0, ik_2_1, ik_2_2, ik_2_3, ik_2_4, is_2, is_5, is_33, is_35, is_36, is_41, is_42, is_tp, is_ta, is_sc, is_po, e_iinc_5, p_194_45, p_194_48, ps_f194, e_ret, eq_self, hwl, nI_1, cc1, cc2, hd2, gS_0 hlay, gS_1 hlay, gS_0 lay_28, gS_1 lay_28, cc_Share_isBelow_0 lay_28 hlay, hcmp, hiff, hlt, cc_Share_become_0 hlay, shr_up, not_true_eq_false, not_false_eq_true, if_true, if_false, true_or, or_true, false_or, or_false, true_and, and_true, false_and, and_false, and_self, or_self, reduceIte, Bool.false_eq_true, i10, i01]
          rfl
        · intro a b x1 x2 x3 x4 x5 x6 x7
          dsimp only
          rw [hJ3.1 a b x7]; exact ep2 a b x1 x2 x3 x4 x5 x6 x7
        · intro a b x1 x2 x3 x4 x5 x6 x7 x8 x9 x10
          dsimp only
          rw [shr_ne x10]; exact gr2 a b x1 x2 x3 x4 x5 x6 x7 x8 x9 x10
        · dsimp only
          rw [shr_0, shr_1, hdp]
          show fr2 _ _ (d_most c (kL (LN q) (d_off (d + 2) nt i) nt) 24) _
          rw [← hh]; exact m4
        · dsimp only
          rw [hdp] at hvw
          cases hvw
          rw [hJ3.2 k (by omega), m2 33 k (by decide) (by decide) (by decide) (by decide) (by omega)]
          exact s3 k hk
      · have hdp : d_pk c (LN q) nt (d + 2) (i + 1) = d_pk c (LN q) nt (d + 2) i := by
          rw [d_pk]
          cases hq : d_pk c (LN q) nt (d + 2) i with
          | none => exfalso; apply hlt; rw [hq]; show _ < (1000000000 : Rat); grind
          | some b => rw [hq] at hlt; exact if_neg hlt
        refine ⟨(p2, r2, x), hd b_85_49 ?_, ep2, gr2, by dsimp only; rw [er, er, hdp]; exact j3, fun _ => ?_, fun v w hvw k hk => ?_⟩
        · simp only [b_85_e, b_85_29, b_85_150, b_85_156, k_1, e_istore_3, e_kpi, e_kpr, e_kpl, e_kpd, k_0, e_istore_4, e_jsr, e_iload_4, e_aloadr_0, g_73_26, g_133_1, e_icmp_ge, e_iload_3, e_iload_1, e_iadd, e_imul, e_iinc_4, e_goto, k_m9, cc_Day_takeStations_0, cc_Day_takeStations_1, cc_Day_takeStations_2, cc_Day_takeStations_3, Option.toList_some, Option.toList_none, List.cons_append, List.nil_append, e_aloadr_2, g_192_45, g_192_48, gs_f192, kl_1000000000, kl_1, cc_Share_become_0, cc_Share_become_1, cc_Share_become_2, cc_Share_become_3, lay_27, lay_28, lay_30, lay_31, lay_32, lay_43, lay_44, lay_46, lay_49, lay_60, g_76_26, g_256_27, g_256_28, g_256_30, g_256_31, g_256_32, g_256_43, g_256_44, g_256_46, g_256_49, g_256_60, gS_0, g_257_27, g_257_28, g_257_30, g_257_31, g_257_32, g_257_43, g_257_44, g_257_46, g_257_49, g_257_60, gS_1, g_68_26, cc_Share_isBelow_0, cc_Share_isBelow_1, cc_Share_isBelow_2, cc_Share_isBelow_3, e_if_eq, e_istore_5, e_iload_5, k_5, g_193_45, g_193_48, gs_f193, il_2, il_5, il_33, il_35, il_36, il_41, il_42, il_tp, il_ta, il_sc, il_po, ik_2_0, ik_2_1, ik_2_2, ik_2_3, ik_2_4, is_2, is_5, is_33, is_35, is_36, is_41, is_42, is_tp, is_ta, is_sc, is_po, e_iinc_5, p_194_45, p_194_48, ps_f194, e_ret, eq_self, hwl, nI_1, cc1, cc2, hd2, gS_0 hlay, gS_1 hlay, cc_Share_isBelow_0 lay_28 hlay, hcmp, hiff, hlt, not_true_eq_false, not_false_eq_true, if_true, if_false, true_or, or_true, false_or, or_false, true_and, and_true, false_and, and_false, and_self, or_self, reduceIte, Bool.false_eq_true, i10, i01, e_inc1]
        · rw [hdp]
          by_cases h0 : 0 < i
          · exact j3b h0
          · have e0 : i = 0 := by omega
            subst e0
            exfalso; apply hlt; show _ < (1000000000 : Rat); grind
        · dsimp only
          rw [hdp] at hvw
          rw [m2 _ _ (by omega) (by omega) (by omega) (by omega) (by omega), s2 _ _ (by omega)]
          exact j4 v w hvw k hk) (tks q (-9) n, shr ml (46 + 3 * d) 1000000000 1, am_dm) ⟨fun _ _ _ _ _ _ _ _ _ => rfl, fun a b x1 x2 x3 x4 x5 x6 x7 x8 x9 x10 => shr_ne x10, by dsimp only; rw [shr_0, shr_1]; exact fr2_far, fun h => absurd h (Nat.lt_irrefl _), fun v w h => by cases h⟩
    obtain ⟨p, r, x⟩ := s'
    obtain ⟨j1, j2, j3, j3b, j4⟩ := hJ
    dsimp only at hlp j1 j2 j3 j3b j4
    have hsm := j3b (Nat.pow_pos (by omega))
    cases hq : d_pk c (LN q) nt (d + 2) ((d + 2) ^ nt) with
    | none => rw [hq] at hsm; cases hsm
    | some b =>
      obtain ⟨v, w⟩ := b
      rw [hq] at j3
      refine ⟨am_up p (45 + 3 * d) 2 1, r, ?_, fun a b x1 x2 x3 x4 x5 x6 x7 x8 x9 x10 x11 => ?_, j2, am_up_self, v, w, rfl, j3, fun k hk => ?_⟩
      · refine Eq.trans (show _ = _ from hlp) (hd b_85_49 ?_)
        simp only [b_85_e, b_85_29, b_85_150, b_85_156, k_1, e_istore_3, e_kpi, e_kpr, e_kpl, e_kpd, k_0, e_istore_4, e_jsr, e_iload_4, e_aloadr_0, g_73_26, g_133_1, e_icmp_ge, e_iload_3, e_iload_1, e_iadd, e_imul, e_iinc_4, e_goto, k_m9, cc_Day_takeStations_0, cc_Day_takeStations_1, cc_Day_takeStations_2, cc_Day_takeStations_3, Option.toList_some, Option.toList_none, List.cons_append, List.nil_append, e_aloadr_2, g_192_45, g_192_48, gs_f192, kl_1000000000, kl_1, cc_Share_become_0, cc_Share_become_1, cc_Share_become_2, cc_Share_become_3, lay_27, lay_28, lay_30, lay_31, lay_32, lay_43, lay_44, lay_46, lay_49, lay_60, g_76_26, g_256_27, g_256_28, g_256_30, g_256_31, g_256_32, g_256_43, g_256_44, g_256_46, g_256_49, g_256_60, gS_0, g_257_27, g_257_28, g_257_30, g_257_31, g_257_32, g_257_43, g_257_44, g_257_46, g_257_49, g_257_60, gS_1, g_68_26, cc_Share_isBelow_0, cc_Share_isBelow_1, cc_Share_isBelow_2, cc_Share_isBelow_3, e_if_eq, e_istore_5, e_iload_5, k_5, g_193_45, g_193_48, gs_f193, il_2, il_5, il_33, il_35, il_36, il_41, il_42, il_tp, il_ta, il_sc, il_po, ik_2_0, ik_2_1, ik_2_2, ik_2_3, ik_2_4, is_2, is_5, is_33, is_35, is_36, is_41, is_42, is_tp, is_ta, is_sc, is_po, e_iinc_5, p_194_45, p_194_48, ps_f194, e_ret, eq_self, lecc, hd2, or_true, not_true_eq_false, not_false_eq_true, if_true, if_false, true_or, or_true, false_or, or_false, true_and, and_true, false_and, and_false, and_self, or_self, reduceIte, Bool.false_eq_true, i10, i01]
      · rw [am_upa, if_neg (fun z => x10 z.1), j1 a b x1 x5 x6 x7 x8 x9 x11, tks_ne x2 x3 x4]
      · rw [am_upa, if_neg (by omega)]
        exact j4 v w hq k hk
  obtain ⟨p, r, e1, e2⟩ := hst
  refine ⟨p, r, ?_, e2⟩
  rw [← e1]
  have h10 : ev E 85 (am_B 85 (Int.toNat 5)) [.ref 26, .int (nI (d + 1)), .ref (45 + 3 * d), .int (nI ((d + 2) ^ nt)), .int (nI nt), am_dm] [] (HH q ml) = ev E 85 (am_B 85 (Int.toNat 49)) [.ref 26, .int (nI (d + 1)), .ref (45 + 3 * d), .int (nI ((d + 2) ^ nt)), .int (nI 0), am_dm] [] (HH (tks q (-9) n) (shr ml (46 + 3 * d) 1000000000 1)) := by
    refine hd b_85_5 ?_
    simp only [b_85_e, b_85_29, b_85_150, b_85_156, k_1, e_istore_3, e_kpi, e_kpr, e_kpl, e_kpd, k_0, e_istore_4, e_jsr, e_iload_4, e_aloadr_0, g_73_26, g_133_1, e_icmp_ge, e_iload_3, e_iload_1, e_iadd, e_imul, e_iinc_4, e_goto, k_m9, cc_Day_takeStations_0, cc_Day_takeStations_1, cc_Day_takeStations_2, cc_Day_takeStations_3, Option.toList_some, Option.toList_none, List.cons_append, List.nil_append, e_aloadr_2, g_192_45, g_192_48, gs_f192, kl_1000000000, kl_1, cc_Share_become_0, cc_Share_become_1, cc_Share_become_2, cc_Share_become_3, lay_27, lay_28, lay_30, lay_31, lay_32, lay_43, lay_44, lay_46, lay_49, lay_60, g_76_26, g_256_27, g_256_28, g_256_30, g_256_31, g_256_32, g_256_43, g_256_44, g_256_46, g_256_49, g_256_60, gS_0, g_257_27, g_257_28, g_257_30, g_257_31, g_257_32, g_257_43, g_257_44, g_257_46, g_257_49, g_257_60, gS_1, g_68_26, cc_Share_isBelow_0, cc_Share_isBelow_1, cc_Share_isBelow_2, cc_Share_isBelow_3, e_if_eq, e_istore_5, e_iload_5, k_5, g_193_45, g_193_48, gs_f193, il_2, il_5, il_33, il_35, il_36, il_41, il_42, il_tp, il_ta, il_sc, il_po, ik_2_0, ik_2_1, ik_2_2, ik_2_3, ik_2_4, is_2, is_5, is_33, is_35, is_36, is_41, is_42, is_tp, is_ta, is_sc, is_po, e_iinc_5, p_194_45, p_194_48, ps_f194, e_ret, eq_self, l2, lecc, hd2, cc_Day_takeStations_0 l1 l3.1, cc_Share_become_0 hlay, shr_up, not_true_eq_false, not_false_eq_true, if_true, if_false, true_or, or_true, false_or, or_false, true_and, and_true, false_and, and_false, and_self, or_self, reduceIte, Bool.false_eq_true, i10, i01]
    rfl
  rw [← h10, ← hways]
  simp only [b_85_e, b_85_29, b_85_150, b_85_156, k_1, e_istore_3, e_kpi, e_kpr, e_kpl, e_kpd, k_0, e_istore_4, e_jsr, e_iload_4, e_aloadr_0, g_73_26, g_133_1, e_icmp_ge, e_iload_3, e_iload_1, e_iadd, e_imul, e_iinc_4, e_goto, k_m9, cc_Day_takeStations_0, cc_Day_takeStations_1, cc_Day_takeStations_2, cc_Day_takeStations_3, Option.toList_some, Option.toList_none, List.cons_append, List.nil_append, e_aloadr_2, g_192_45, g_192_48, gs_f192, kl_1000000000, kl_1, cc_Share_become_0, cc_Share_become_1, cc_Share_become_2, cc_Share_become_3, lay_27, lay_28, lay_30, lay_31, lay_32, lay_43, lay_44, lay_46, lay_49, lay_60, g_76_26, g_256_27, g_256_28, g_256_30, g_256_31, g_256_32, g_256_43, g_256_44, g_256_46, g_256_49, g_256_60, gS_0, g_257_27, g_257_28, g_257_30, g_257_31, g_257_32, g_257_43, g_257_44, g_257_46, g_257_49, g_257_60, gS_1, g_68_26, cc_Share_isBelow_0, cc_Share_isBelow_1, cc_Share_isBelow_2, cc_Share_isBelow_3, e_if_eq, e_istore_5, e_iload_5, k_5, g_193_45, g_193_48, gs_f193, il_2, il_5, il_33, il_35, il_36, il_41, il_42, il_tp, il_ta, il_sc, il_po, ik_2_0, ik_2_1, ik_2_2, ik_2_3, ik_2_4, is_2, is_5, is_33, is_35, is_36, is_41, is_42, is_tp, is_ta, is_sc, is_po, e_iinc_5, p_194_45, p_194_48, ps_f194, e_ret, eq_self, Nat.pow_zero]
  rfl
end Pk
