/-! THE REFERENCE'S findPeak; peak -/
theorem fr2_nn {u d : Int64} {r : Rat} {B : Nat} (h : fr2 u d r B) (hB : B ≤ 1000000000000) (hr : 0 ≤ r) : ¬ u < 0 := by
  obtain ⟨a, b, rfl, rfl, b1, b2, b3, b4⟩ := h
  have := (rat_sgn b1 b4).2.2.mpr hr
  rw [k0i64, i64_lt (by omega) (by decide)]
  omega
theorem d_pk_nn {c : qC} {L : Nat → Nat → Int32} {nt C : Nat} : ∀ {i : Nat} {v : Rat} {w : Nat}, d_pk c L nt C i = some (v, w) → 0 ≤ v := by
  intro i
  induction i with
  | zero => intro v w h; cases h
  | succ i ih =>
    intro v w h
    rw [d_pk] at h
    cases hq : d_pk c L nt C i with
    | none => rw [hq] at h; cases h; exact d_most_nn
    | some b =>
      rw [hq] at h
      dsimp only at h
      split at h
      · cases h; exact d_most_nn
      · cases h; exact ih hq
section Pk2
variable {E : aE} {nt : Nat}
/-- the reference's putOff by a way -/
theorem x_spread {q : Nat → Nat → Int32} {ml : Nat → Nat → Int64} {d way : Nat} {v3 : Value} {W : Int32} (hd2 : d < 2) (h8 : q 61 8 = nI nt) (hn5 : nt ≤ 5) (hw : way < 243) : ∃ p, ev E 168 (am_B 168 (Int.toNat 61)) [.ref 61, .int (nI (d + 1)), .int W, .int (nI way), .int (nI way), .int (nI nt - 1)] [] (HH q ml) = ev E 168 (am_B 168 (Int.toNat 93)) [.ref 61, .int (nI (d + 1)), .int W, .int (nI way), .int (nI (way / (d + 2) ^ nt)), .int (nI 0 - 1)] [] (HH p ml) ∧ (∀ a b, ¬ (a = 69 ∧ b < nt) → p a b = q a b) ∧ ∀ n, n < nt → p 69 n = nI (d_off (d + 2) nt way n) := by
  have hne : ¬ nI (d + 2) = 0 := nI_ne0 (by omega) (by omega)
  have hC : d + 2 = 2 ∨ d + 2 = 3 := by omega
  obtain ⟨p, hl, hJ⟩ := loop_inv (fun i (s : Nat → Nat → Int32) => ev E 168 (am_B 168 (Int.toNat 61)) [.ref 61, .int (nI (d + 1)), .int W, .int (nI way), .int (nI (way / (d + 2) ^ i)), .int (nI (nt - i) - 1)] [] (HH s ml)) (fun i s => (∀ a b, ¬ (a = 69 ∧ b < nt) → s a b = q a b) ∧ ∀ n, nt - i ≤ n → n < nt → s 69 n = nI (d_off (d + 2) nt way n)) nt (fun i p hi hj => by
    obtain ⟨j1, j2⟩ := hj
    have e1 : nI (nt - i) - 1 = nI (nt - i - 1) := by rw [show nt - i = (nt - i - 1) + 1 by omega, nI_pred]; rfl
    have hj5 : nt - i - 1 < 5 := by omega
    have hq : way / (d + 2) ^ i < 243 := Nat.lt_of_le_of_lt (Nat.div_le_self _ _) hw
    obtain ⟨m1, m2⟩ := nI_dm hq hC
    rw [m2] at m1
    have e2 : way / (d + 2) ^ (i + 1) = way / (d + 2) ^ i / (d + 2) := by rw [Nat.div_div_eq_div_mul, Nat.pow_succ]
    have e3 : nI (nt - i - 1) + Int32.ofInt (-1) = nI (nt - (i + 1)) - 1 := by rw [dec_sub, show nt - i - 1 = nt - (i + 1) by omega]
    have e4 : nI (d + 1) + 1 = nI (d + 2) := nI_1 (d + 1)
    refine ⟨am_up p 69 (nt - i - 1) (nI (way / (d + 2) ^ i % (d + 2))), hd b_168_61 ?_, fun a b h => by rw [am_upa, if_neg (fun z => h ⟨z.1, by omega⟩)]; exact j1 a b h, fun n h1 h2 => ?_⟩
    · rw [e1, e2, ← e3]
      simp only [b_168_e, b_168_36, b_168_93, b_168_128, b_168_176, b_168_182, b_168_210, k_1, e_istore_2, e_kpi, e_kpr, e_kpl, e_kpd, k_0, e_istore_3, e_jsr, e_iload_3, e_aloadr_0, g_584_61, e_icmp_ge, g_605_61, g_587_61, il_62, il_63, il_64, il_66, il_67, il_68, il_69, il_70, il_71, il_72, il_73, il_74, il_75, il_76, il_77, ik_62_0, ik_62_1, ik_62_2, ik_62_3, ik_62_4, ik_73_0, ik_74_0, is_62, is_63, is_64, is_66, is_67, is_68, is_69, is_70, is_71, is_72, is_73, is_74, is_75, is_76, is_77, iks_73_0, iks_74_0, e_iload_2, e_iload_1, e_iadd, e_imul, e_iinc_3, e_goto, kl_m1, p_607_61, e_istore_4, e_isub, e_istore_5, e_iload_5, e_if_lt, e_iload_4, e_irem, e_idiv, e_iinc_5, Option.toList_some, Option.toList_none, List.cons_append, List.nil_append, g_607_61, kl_0, e_lcmp, g_603_61, g_608_61, e_lmul, g_604_61, e_if_ge, p_608_61, g_606_61, e_ret, eq_self, lt_sN hj5, hj5, e4, e_irem hne, e_idiv hne, m1, m2, not_true_eq_false, not_false_eq_true, if_true, if_false, true_or, or_true, false_or, or_false, true_and, and_true, false_and, and_false, and_self, or_self, reduceIte, Bool.false_eq_true, i10, i01]
    · rw [am_upa]
      by_cases e : n = nt - i - 1
      · rw [if_pos ⟨rfl, e⟩]
        unfold d_off
        rw [show nt - 1 - n = i by omega]
      · rw [if_neg (fun z => e z.2)]
        exact j2 n (by omega) h2) q ⟨fun _ _ _ => rfl, fun n h1 h2 => by omega⟩
  refine ⟨p, ?_, hJ.1, fun n hn => hJ.2 n (by omega) hn⟩
  have h0 : nI way = nI (way / (d + 2) ^ 0) := by rw [Nat.pow_zero, Nat.div_one]
  have hz : (nI 0 - 1 < 0) = True := eq_true (by decide +kernel)
  have hl2 := hl
  rw [← h0, Nat.sub_zero, Nat.sub_self] at hl2
  refine Eq.trans hl2 (hd b_168_61 ?_)
  simp only [b_168_e, b_168_36, b_168_93, b_168_128, b_168_176, b_168_182, b_168_210, k_1, e_istore_2, e_kpi, e_kpr, e_kpl, e_kpd, k_0, e_istore_3, e_jsr, e_iload_3, e_aloadr_0, g_584_61, e_icmp_ge, g_605_61, g_587_61, il_62, il_63, il_64, il_66, il_67, il_68, il_69, il_70, il_71, il_72, il_73, il_74, il_75, il_76, il_77, ik_62_0, ik_62_1, ik_62_2, ik_62_3, ik_62_4, ik_73_0, ik_74_0, is_62, is_63, is_64, is_66, is_67, is_68, is_69, is_70, is_71, is_72, is_73, is_74, is_75, is_76, is_77, iks_73_0, iks_74_0, e_iload_2, e_iload_1, e_iadd, e_imul, e_iinc_3, e_goto, kl_m1, p_607_61, e_istore_4, e_isub, e_istore_5, e_iload_5, e_if_lt, e_iload_4, e_irem, e_idiv, e_iinc_5, Option.toList_some, Option.toList_none, List.cons_append, List.nil_append, g_607_61, kl_0, e_lcmp, g_603_61, g_608_61, e_lmul, g_604_61, e_if_ge, p_608_61, g_606_61, e_ret, eq_self, hz, not_true_eq_false, not_false_eq_true, if_true, if_false, true_or, or_true, false_or, or_false, true_and, and_true, false_and, and_false, and_self, or_self, reduceIte, Bool.false_eq_true, i10, i01]
theorem x_peak {q : Nat → Nat → Int32} {ml : Nat → Nat → Int64} {n I d : Nat} {c : qC} {L : Nat → Nat → Int32} {off : Nat → Nat} (hd2 : d < 2) (hZ : rZ q n I nt c L off) (hT : LiT L nt) (hm : 0 < q_m c) : ∃ p r, ev E 168 (am_B 168 0) [.ref 61, .int (nI (d + 1)), am_dm, am_dm, am_dm, am_dm] [] (HH q ml) = some (none, HH p r) ∧ h1 p q ∧ k1 r ml ∧ ∃ v w, d_pk c L nt (d + 2) ((d + 2) ^ nt) = some (v, w) ∧ fr2 (r 61 31) (r 61 32) v 1000000000000 ∧ ∀ k, k < nt → p 77 k = nI (d_off (d + 2) nt w k) := by
  have hnt5 := hT.1
  have hpw := pow_lt hd2 hnt5
  have h8 := hZ.2.2.1
  -- first loop
  obtain ⟨q0, hf, hF⟩ := loop_inv (fun i (s : Nat → Nat → Int32) => ev E 168 (am_B 168 (Int.toNat 4)) [.ref 61, .int (nI (d + 1)), .int (nI ((d + 2) ^ i)), .int (nI i), am_dm, am_dm] [] (HH s ml)) (fun i s => (∀ a b, ¬ a = 76 → s a b = q a b) ∧ ∀ k, k < i → s 76 k = q 69 k) nt (fun i s hi hj => by
    have e : nI ((d + 2) ^ i) * nI (d + 1 + 1) = nI ((d + 2) ^ (i + 1)) := by rw [nI_mul, Nat.pow_succ]
    have hi5 : i < 5 := by omega
    have e8 : s 61 8 = nI nt := by rw [hj.1 61 8 (by decide)]; exact h8
    have e69 : s 69 i = q 69 i := hj.1 69 i (by decide)
    refine ⟨am_up s 76 i (q 69 i), hd b_168_4 ?_, fun a b h => by rw [am_upa, if_neg (fun z => h z.1)]; exact hj.1 a b h, fun k hk => ?_⟩
    · simp only [b_168_e, b_168_36, b_168_93, b_168_128, b_168_176, b_168_182, b_168_210, k_1, e_istore_2, e_kpi, e_kpr, e_kpl, e_kpd, k_0, e_istore_3, e_jsr, e_iload_3, e_aloadr_0, g_584_61, e_icmp_ge, g_605_61, g_587_61, il_62, il_63, il_64, il_66, il_67, il_68, il_69, il_70, il_71, il_72, il_73, il_74, il_75, il_76, il_77, ik_62_0, ik_62_1, ik_62_2, ik_62_3, ik_62_4, ik_73_0, ik_74_0, is_62, is_63, is_64, is_66, is_67, is_68, is_69, is_70, is_71, is_72, is_73, is_74, is_75, is_76, is_77, iks_73_0, iks_74_0, e_iload_2, e_iload_1, e_iadd, e_imul, e_iinc_3, e_goto, kl_m1, p_607_61, e_istore_4, e_isub, e_istore_5, e_iload_5, e_if_lt, e_iload_4, e_irem, e_idiv, e_iinc_5, Option.toList_some, Option.toList_none, List.cons_append, List.nil_append, g_607_61, kl_0, e_lcmp, g_603_61, g_608_61, e_lmul, g_604_61, e_if_ge, p_608_61, g_606_61, e_ret, eq_self, e8, lec (show nt < 1000 by omega) hi, hi5, e69, nI_1, e, not_true_eq_false, not_false_eq_true, if_true, if_false, true_or, or_true, false_or, or_false, true_and, and_true, false_and, and_false, and_self, or_self, reduceIte, Bool.false_eq_true, i10, i01, e_inc1]
    · rw [am_upa]
      by_cases e : k = i
      · rw [if_pos ⟨rfl, e⟩, e]
      · rw [if_neg (fun z => e z.2)]; exact hj.2 k (by omega)) q ⟨fun _ _ _ => rfl, fun k hk => by omega⟩
  obtain ⟨F1, F2⟩ := hF
  have e80 : q0 61 8 = nI nt := by rw [F1 61 8 (by decide)]; exact h8
  -- ways
  have hst : ∃ p r, ev E 168 (am_B 168 (Int.toNat 45)) [.ref 61, .int (nI (d + 1)), .int (nI ((d + 2) ^ nt)), .int (nI 0), am_dm, am_dm] [] (HH q0 (am_up ml 61 31 (-1))) = some (none, HH p r) ∧ h1 p q ∧ k1 r ml ∧ ∃ v w, d_pk c L nt (d + 2) ((d + 2) ^ nt) = some (v, w) ∧ fr2 (r 61 31) (r 61 32) v 1000000000000 ∧ ∀ k, k < nt → p 77 k = nI (d_off (d + 2) nt w k) := by
    obtain ⟨s', hl, hJ⟩ := loop_inv (fun i (s : (Nat → Nat → Int32) × (Nat → Nat → Int64) × Value × Value) => ev E 168 (am_B 168 (Int.toNat 45)) [.ref 61, .int (nI (d + 1)), .int (nI ((d + 2) ^ nt)), .int (nI i), s.2.2.1, s.2.2.2] [] (HH s.1 s.2.1)) (fun i s => (∀ a b, ¬ (a = 61 ∧ (b = 15 ∨ b = 18)) → ¬ (a = 69 ∧ b < nt) → ¬ a = 73 → ¬ a = 74 → ¬ a = 75 → ¬ a = 77 → s.1 a b = q0 a b) ∧ k1 s.2.1 ml ∧ (d_pk c L nt (d + 2) i = none → s.2.1 61 31 = -1) ∧ (0 < i → (d_pk c L nt (d + 2) i).isSome = true) ∧ ∀ v w, d_pk c L nt (d + 2) i = some (v, w) → fr2 (s.2.1 61 31) (s.2.1 61 32) v 1000000000000 ∧ ∀ k, k < nt → s.1 77 k = nI (d_off (d + 2) nt w k)) ((d + 2) ^ nt) (fun i s hi hj => by
      obtain ⟨p, r, xv, yv⟩ := s
      obtain ⟨j1, j2, j3, j3b, j4⟩ := hj
      dsimp only at j1 j2 j3 j3b j4 ⊢
      have e8 : p 61 8 = nI nt := by rw [j1 61 8 (by decide) (by omega) (by decide) (by decide) (by decide) (by decide)]; exact e80
      obtain ⟨p1, s1, s2, s3⟩ := x_spread (E := E) (ml := r) (q := p) (d := d) (way := i) (v3 := .null) (W := nI ((d + 2) ^ nt)) hd2 e8 hnt5 (by omega)
      have e1 : ∀ a b, ¬ (a = 61 ∧ (b = 15 ∨ b = 18)) → ¬ (a = 69 ∧ b < nt) → ¬ a = 73 → ¬ a = 74 → ¬ a = 75 → ¬ a = 77 → p1 a b = q0 a b := fun a b x1 x2 x3 x4 x5 x6 => by rw [s2 a b x2, j1 a b x1 x2 x3 x4 x5 x6]
      have eq1 : ∀ a b, ¬ (a = 61 ∧ (b = 15 ∨ b = 18)) → ¬ (a = 69 ∧ b < nt) → ¬ a = 73 → ¬ a = 74 → ¬ a = 75 → ¬ a = 76 → ¬ a = 77 → p1 a b = q a b := fun a b x1 x2 x3 x4 x5 x6 x7 => by rw [e1 a b x1 x2 x3 x4 x5 x7, F1 a b x6]
      have hdo : ∀ k, d_off (d + 2) nt i k < 3 := fun k => by have := Nat.mod_lt (i / (d + 2) ^ (nt - 1 - k)) (show 0 < d + 2 by omega); unfold d_off; omega
      have hZ1 : rZ p1 n I nt c L (d_off (d + 2) nt i) := by
        obtain ⟨z1, z2, w1, w2, w3, w4⟩ := hZ
        refine ⟨rS_of z1 (eq1 61 3 (by decide) (by omega) (by decide) (by decide) (by decide) (by decide) (by decide)) (fun b => eq1 64 b (by omega) (by omega) (by decide) (by decide) (by decide) (by decide) (by decide)) (fun b => eq1 65 b (by omega) (by omega) (by decide) (by decide) (by decide) (by decide) (by decide)), rR_of z2 (fun b => eq1 62 b (by omega) (by omega) (by decide) (by decide) (by decide) (by decide) (by decide)), by rw [s2 61 8 (by omega)]; exact e8, fun k hk => ⟨s3 k hk, by have := hdo k; omega⟩, fun k hk t ht => by rw [eq1 67 _ (by omega) (by omega) (by decide) (by decide) (by decide) (by decide) (by decide), eq1 68 _ (by omega) (by omega) (by decide) (by decide) (by decide) (by decide) (by decide)]; exact w3 k hk t ht, fun j hj => by rw [eq1 67 j (by omega) (by omega) (by decide) (by decide) (by decide) (by decide) (by decide)]; exact w4 j hj⟩
      obtain ⟨p2, r2, m1, m2, m3, m4⟩ := x_most (E := E) (ml := r) hZ1 hT hm
      have cc2 : ∀ {M_ : Nat} {c_ : List Instr} {L_ : List Value}, ev E M_ (.invokevirtual 162 :: c_) L_ (.ref 61 :: []) (HH p1 r) = ev E M_ c_ L_ [] (HH p2 r2) := fun {M_} {c_} {L_} => e_inv (as := [.ref 61]) (S := []) rfl rfl (Nat.le_of_ble_eq_true rfl) (rfl) (m1)
      have er : ∀ b, b = 31 ∨ b = 32 → r2 61 b = r 61 b := fun b z => m3 61 b (by omega)
      have ep2 : ∀ a b, ¬ (a = 61 ∧ (b = 15 ∨ b = 18)) → ¬ (a = 69 ∧ b < nt) → ¬ a = 73 → ¬ a = 74 → ¬ a = 75 → ¬ a = 77 → p2 a b = q0 a b := fun a b x1 x2 x3 x4 x5 x6 => by rw [m2 a b x1 x3 x4 x5, e1 a b x1 x2 x3 x4 x5 x6]
      have kr2 : k1 r2 ml := k1_tr (k1_k2 m3) j2
      have e82 : p2 61 8 = nI nt := by rw [m2 61 8 (by decide) (by decide) (by decide) (by decide), s2 61 8 (by omega)]; exact e8
      have hwl : (nI ((d + 2) ^ nt) ≤ nI i) = False := eq_false (fun z => by have := (nI_leI (by omega) (by omega)).mp z; omega)
      -- up to findMost
      have hA : ∀ (X : Option aR), ev E 168 (am_B 168 (Int.toNat 93)) [.ref 61, .int (nI (d + 1)), .int (nI ((d + 2) ^ nt)), .int (nI i), .int (nI (i / (d + 2) ^ nt)), .int (nI 0 - 1)] [] (HH p1 r) = X → ev E 168 (am_B 168 (Int.toNat 45)) [.ref 61, .int (nI (d + 1)), .int (nI ((d + 2) ^ nt)), .int (nI i), xv, yv] [] (HH p r) = X := by
        intro X hX
        rw [← hX, ← s1]
        refine hd b_168_45 ?_
        simp only [b_168_e, b_168_36, b_168_93, b_168_128, b_168_176, b_168_182, b_168_210, k_1, e_istore_2, e_kpi, e_kpr, e_kpl, e_kpd, k_0, e_istore_3, e_jsr, e_iload_3, e_aloadr_0, g_584_61, e_icmp_ge, g_605_61, g_587_61, il_62, il_63, il_64, il_66, il_67, il_68, il_69, il_70, il_71, il_72, il_73, il_74, il_75, il_76, il_77, ik_62_0, ik_62_1, ik_62_2, ik_62_3, ik_62_4, ik_73_0, ik_74_0, is_62, is_63, is_64, is_66, is_67, is_68, is_69, is_70, is_71, is_72, is_73, is_74, is_75, is_76, is_77, iks_73_0, iks_74_0, e_iload_2, e_iload_1, e_iadd, e_imul, e_iinc_3, e_goto, kl_m1, p_607_61, e_istore_4, e_isub, e_istore_5, e_iload_5, e_if_lt, e_iload_4, e_irem, e_idiv, e_iinc_5, Option.toList_some, Option.toList_none, List.cons_append, List.nil_append, g_607_61, kl_0, e_lcmp, g_603_61, g_608_61, e_lmul, g_604_61, e_if_ge, p_608_61, g_606_61, e_ret, eq_self, hwl, e8, not_true_eq_false, not_false_eq_true, if_true, if_false, true_or, or_true, false_or, or_false, true_and, and_true, false_and, and_false, and_self, or_self, reduceIte, Bool.false_eq_true, i10, i01]
      -- the copy
      have hcopy : ∃ p3, ev E 168 (am_B 168 (Int.toNat 147)) [.ref 61, .int (nI (d + 1)), .int (nI ((d + 2) ^ nt)), .int (nI i), .int (nI (i / (d + 2) ^ nt)), .int (nI 0)] [] (HH p2 (am_up (am_up r2 61 31 (r2 61 27)) 61 32 (r2 61 28))) = ev E 168 (am_B 168 (Int.toNat 45)) [.ref 61, .int (nI (d + 1)), .int (nI ((d + 2) ^ nt)), .int (nI (i + 1)), .int (nI (i / (d + 2) ^ nt)), .int (nI nt)] [] (HH p3 (am_up (am_up r2 61 31 (r2 61 27)) 61 32 (r2 61 28))) ∧ (∀ a b, ¬ a = 77 → p3 a b = p2 a b) ∧ ∀ k, k < nt → p3 77 k = p2 69 k := by
        obtain ⟨p3, hc, hC⟩ := loop_inv (fun k (x : Nat → Nat → Int32) => ev E 168 (am_B 168 (Int.toNat 147)) [.ref 61, .int (nI (d + 1)), .int (nI ((d + 2) ^ nt)), .int (nI i), .int (nI (i / (d + 2) ^ nt)), .int (nI k)] [] (HH x (am_up (am_up r2 61 31 (r2 61 27)) 61 32 (r2 61 28)))) (fun k x => (∀ a b, ¬ a = 77 → x a b = p2 a b) ∧ ∀ u, u < k → x 77 u = p2 69 u) nt (fun k x hk hj => by
          have hk5 : k < 5 := by omega
          have e8x : x 61 8 = nI nt := by rw [hj.1 61 8 (by decide)]; exact e82
          have e69 : x 69 k = p2 69 k := hj.1 69 k (by decide)
          refine ⟨am_up x 77 k (p2 69 k), hd b_168_147 ?_, fun a b h => by rw [am_upa, if_neg (fun z => h z.1)]; exact hj.1 a b h, fun u hu => ?_⟩
          · simp only [b_168_e, b_168_36, b_168_93, b_168_128, b_168_176, b_168_182, b_168_210, k_1, e_istore_2, e_kpi, e_kpr, e_kpl, e_kpd, k_0, e_istore_3, e_jsr, e_iload_3, e_aloadr_0, g_584_61, e_icmp_ge, g_605_61, g_587_61, il_62, il_63, il_64, il_66, il_67, il_68, il_69, il_70, il_71, il_72, il_73, il_74, il_75, il_76, il_77, ik_62_0, ik_62_1, ik_62_2, ik_62_3, ik_62_4, ik_73_0, ik_74_0, is_62, is_63, is_64, is_66, is_67, is_68, is_69, is_70, is_71, is_72, is_73, is_74, is_75, is_76, is_77, iks_73_0, iks_74_0, e_iload_2, e_iload_1, e_iadd, e_imul, e_iinc_3, e_goto, kl_m1, p_607_61, e_istore_4, e_isub, e_istore_5, e_iload_5, e_if_lt, e_iload_4, e_irem, e_idiv, e_iinc_5, Option.toList_some, Option.toList_none, List.cons_append, List.nil_append, g_607_61, kl_0, e_lcmp, g_603_61, g_608_61, e_lmul, g_604_61, e_if_ge, p_608_61, g_606_61, e_ret, eq_self, e8x, lec (show nt < 1000 by omega) hk, hk5, e69, not_true_eq_false, not_false_eq_true, if_true, if_false, true_or, or_true, false_or, or_false, true_and, and_true, false_and, and_false, and_self, or_self, reduceIte, Bool.false_eq_true, i10, i01, e_inc1]
          · rw [am_upa]
            by_cases e : u = k
            · rw [if_pos ⟨rfl, e⟩, e]
            · rw [if_neg (fun z => e z.2)]; exact hj.2 u (by omega)) p2 ⟨fun _ _ _ => rfl, fun u hu => by omega⟩
        have e83 : p3 61 8 = nI nt := by rw [hC.1 61 8 (by decide)]; exact e82
        refine ⟨p3, Eq.trans hc (hd b_168_147 ?_), hC.1, hC.2⟩
        simp only [b_168_e, b_168_36, b_168_93, b_168_128, b_168_176, b_168_182, b_168_210, k_1, e_istore_2, e_kpi, e_kpr, e_kpl, e_kpd, k_0, e_istore_3, e_jsr, e_iload_3, e_aloadr_0, g_584_61, e_icmp_ge, g_605_61, g_587_61, il_62, il_63, il_64, il_66, il_67, il_68, il_69, il_70, il_71, il_72, il_73, il_74, il_75, il_76, il_77, ik_62_0, ik_62_1, ik_62_2, ik_62_3, ik_62_4, ik_73_0, ik_74_0, is_62, is_63, is_64, is_66, is_67, is_68, is_69, is_70, is_71, is_72, is_73, is_74, is_75, is_76, is_77, iks_73_0, iks_74_0, e_iload_2, e_iload_1, e_iadd, e_imul, e_iinc_3, e_goto, kl_m1, p_607_61, e_istore_4, e_isub, e_istore_5, e_iload_5, e_if_lt, e_iload_4, e_irem, e_idiv, e_iinc_5, Option.toList_some, Option.toList_none, List.cons_append, List.nil_append, g_607_61, kl_0, e_lcmp, g_603_61, g_608_61, e_lmul, g_604_61, e_if_ge, p_608_61, g_606_61, e_ret, eq_self, e83, lecc, not_true_eq_false, not_false_eq_true, if_true, if_false, true_or, or_true, false_or, or_false, true_and, and_true, false_and, and_false, and_self, or_self, reduceIte, Bool.false_eq_true, i10, i01, e_inc1]
      obtain ⟨p3, c1, c2, c3⟩ := hcopy
      have hset : ∀ v w, some (d_most c (kL L (d_off (d + 2) nt i) nt) 24, i) = some (v, w) → fr2 (am_up (am_up r2 61 31 (r2 61 27)) 61 32 (r2 61 28) 61 31) (am_up (am_up r2 61 31 (r2 61 27)) 61 32 (r2 61 28) 61 32) v 1000000000000 ∧ ∀ k, k < nt → p3 77 k = nI (d_off (d + 2) nt w k) := by
        intro v w hvw
        cases hvw
        refine ⟨by rw [am_upa, if_neg (by decide), am_up_self, am_up_self]; exact m4, fun k hk => ?_⟩
        rw [c3 k hk, m2 69 k (by omega) (by decide) (by decide) (by decide)]
        exact s3 k hk
      have ep3 : ∀ a b, ¬ (a = 61 ∧ (b = 15 ∨ b = 18)) → ¬ (a = 69 ∧ b < nt) → ¬ a = 73 → ¬ a = 74 → ¬ a = 75 → ¬ a = 77 → p3 a b = q0 a b := fun a b x1 x2 x3 x4 x5 x6 => by rw [c2 a b x6, ep2 a b x1 x2 x3 x4 x5 x6]
      have kr3 : k1 (am_up (am_up r2 61 31 (r2 61 27)) 61 32 (r2 61 28)) ml := fun a b x => by rw [am_upa, if_neg (fun z => x z.1), am_upa, if_neg (fun z => x z.1)]; exact kr2 a b x
      have e128 : am_up r2 61 31 (r2 61 27) 61 28 = r2 61 28 := by rw [am_upa, if_neg (by decide)]
      have k0 : (0 : Int32) = nI 0 := rfl
      cases hq : d_pk c L nt (d + 2) i with
      | none =>
        have hdp : d_pk c L nt (d + 2) (i + 1) = some (d_most c (kL L (d_off (d + 2) nt i) nt) 24, i) := by rw [d_pk, hq]
        have e31 : r2 61 31 = -1 := by rw [er 31 (by simp)]; exact j3 hq
        have hneg : ((-1 : Int64) < 0) = True := eq_true (by decide)
        refine ⟨(p3, am_up (am_up r2 61 31 (r2 61 27)) 61 32 (r2 61 28), .int (nI (i / (d + 2) ^ nt)), .int (nI nt)), hA _ ?_, ep3, kr3, fun h => (by rw [hdp] at h; cases h), fun _ => by rw [hdp]; rfl, fun v w h => hset v w (by rw [← hdp]; exact h)⟩
        rw [← c1]
        simp only [b_168_e, b_168_36, b_168_93, b_168_128, b_168_176, b_168_182, b_168_210, k_1, e_istore_2, e_kpi, e_kpr, e_kpl, e_kpd, k_0, e_istore_3, e_jsr, e_iload_3, e_aloadr_0, g_584_61, e_icmp_ge, g_605_61, g_587_61, il_62, il_63, il_64, il_66, il_67, il_68, il_69, il_70, il_71, il_72, il_73, il_74, il_75, il_76, il_77, ik_62_0, ik_62_1, ik_62_2, ik_62_3, ik_62_4, ik_73_0, ik_74_0, is_62, is_63, is_64, is_66, is_67, is_68, is_69, is_70, is_71, is_72, is_73, is_74, is_75, is_76, is_77, iks_73_0, iks_74_0, e_iload_2, e_iload_1, e_iadd, e_imul, e_iinc_3, e_goto, kl_m1, p_607_61, e_istore_4, e_isub, e_istore_5, e_iload_5, e_if_lt, e_iload_4, e_irem, e_idiv, e_iinc_5, Option.toList_some, Option.toList_none, List.cons_append, List.nil_append, g_607_61, kl_0, e_lcmp, g_603_61, g_608_61, e_lmul, g_604_61, e_if_ge, p_608_61, g_606_61, e_ret, eq_self, cc2, e31, lg_cmp_lt, hneg, e128, not_true_eq_false, not_false_eq_true, if_true, if_false, true_or, or_true, false_or, or_false, true_and, and_true, false_and, and_false, and_self, or_self, reduceIte, Bool.false_eq_true, i10, i01]
        rfl
      | some bb =>
        obtain ⟨bv, bw⟩ := bb
        obtain ⟨w1, w2⟩ := j4 bv bw hq
        have hnn := fr2_nn w1 (Nat.le_refl _) (d_pk_nn hq)
        have hcmp := fr2_lt m4 w1 (Nat.le_refl _)
        rw [← er 31 (by simp), ← er 32 (by simp)] at hcmp
        rw [← er 31 (by simp)] at hnn
        by_cases hlt : d_most c (kL L (d_off (d + 2) nt i) nt) 24 < bv
        · have hdp : d_pk c L nt (d + 2) (i + 1) = some (d_most c (kL L (d_off (d + 2) nt i) nt) 24, i) := by rw [d_pk, hq]; exact if_pos hlt
          refine ⟨(p3, am_up (am_up r2 61 31 (r2 61 27)) 61 32 (r2 61 28), .int (nI (i / (d + 2) ^ nt)), .int (nI nt)), hA _ ?_, ep3, kr3, fun h => (by rw [hdp] at h; cases h), fun _ => by rw [hdp]; rfl, fun v w h => hset v w (by rw [← hdp]; exact h)⟩
          rw [← c1]
          simp only [b_168_e, b_168_36, b_168_93, b_168_128, b_168_176, b_168_182, b_168_210, k_1, e_istore_2, e_kpi, e_kpr, e_kpl, e_kpd, k_0, e_istore_3, e_jsr, e_iload_3, e_aloadr_0, g_584_61, e_icmp_ge, g_605_61, g_587_61, il_62, il_63, il_64, il_66, il_67, il_68, il_69, il_70, il_71, il_72, il_73, il_74, il_75, il_76, il_77, ik_62_0, ik_62_1, ik_62_2, ik_62_3, ik_62_4, ik_73_0, ik_74_0, is_62, is_63, is_64, is_66, is_67, is_68, is_69, is_70, is_71, is_72, is_73, is_74, is_75, is_76, is_77, iks_73_0, iks_74_0, e_iload_2, e_iload_1, e_iadd, e_imul, e_iinc_3, e_goto, kl_m1, p_607_61, e_istore_4, e_isub, e_istore_5, e_iload_5, e_if_lt, e_iload_4, e_irem, e_idiv, e_iinc_5, Option.toList_some, Option.toList_none, List.cons_append, List.nil_append, g_607_61, kl_0, e_lcmp, g_603_61, g_608_61, e_lmul, g_604_61, e_if_ge, p_608_61, g_606_61, e_ret, eq_self, cc2, lg_cmp_lt, hnn, lg_cmp_ge, nle64, hcmp, hlt, e128, not_true_eq_false, not_false_eq_true, if_true, if_false, true_or, or_true, false_or, or_false, true_and, and_true, false_and, and_false, and_self, or_self, reduceIte, Bool.false_eq_true, i10, i01]
          rfl
        · have hdp : d_pk c L nt (d + 2) (i + 1) = some (bv, bw) := by rw [d_pk, hq]; exact if_neg hlt
          refine ⟨(p2, r2, .int (nI (i / (d + 2) ^ nt)), .int (nI 0 - 1)), hA _ ?_, ep2, kr2, fun h => (by rw [hdp] at h; cases h), fun _ => by rw [hdp]; rfl, fun v w h => ?_⟩
          · simp only [b_168_e, b_168_36, b_168_93, b_168_128, b_168_176, b_168_182, b_168_210, k_1, e_istore_2, e_kpi, e_kpr, e_kpl, e_kpd, k_0, e_istore_3, e_jsr, e_iload_3, e_aloadr_0, g_584_61, e_icmp_ge, g_605_61, g_587_61, il_62, il_63, il_64, il_66, il_67, il_68, il_69, il_70, il_71, il_72, il_73, il_74, il_75, il_76, il_77, ik_62_0, ik_62_1, ik_62_2, ik_62_3, ik_62_4, ik_73_0, ik_74_0, is_62, is_63, is_64, is_66, is_67, is_68, is_69, is_70, is_71, is_72, is_73, is_74, is_75, is_76, is_77, iks_73_0, iks_74_0, e_iload_2, e_iload_1, e_iadd, e_imul, e_iinc_3, e_goto, kl_m1, p_607_61, e_istore_4, e_isub, e_istore_5, e_iload_5, e_if_lt, e_iload_4, e_irem, e_idiv, e_iinc_5, Option.toList_some, Option.toList_none, List.cons_append, List.nil_append, g_607_61, kl_0, e_lcmp, g_603_61, g_608_61, e_lmul, g_604_61, e_if_ge, p_608_61, g_606_61, e_ret, eq_self, cc2, lg_cmp_lt, hnn, lg_cmp_ge, nle64, hcmp, hlt, not_true_eq_false, not_false_eq_true, if_true, if_false, true_or, or_true, false_or, or_false, true_and, and_true, false_and, and_false, and_self, or_self, reduceIte, Bool.false_eq_true, i10, i01, e_inc1]
          · rw [hdp] at h
            cases h
            dsimp only
            refine ⟨by rw [er 31 (by simp), er 32 (by simp)]; exact w1, fun k hk => ?_⟩
            rw [m2 77 k (by omega) (by decide) (by decide) (by decide), s2 77 k (by omega)]
            exact w2 k hk) (q0, am_up ml 61 31 (-1), am_dm, am_dm) ⟨fun _ _ _ _ _ _ _ _ => rfl, fun a b x => by dsimp only; rw [am_upa, if_neg (fun z => x z.1)], fun _ => (by dsimp only; exact am_up_self), fun h => absurd h (Nat.lt_irrefl _), fun v w h => by cases h⟩
    obtain ⟨p, r, xv, yv⟩ := s'
    obtain ⟨j1, j2, j3, j3b, j4⟩ := hJ
    dsimp only at hl j1 j2 j3 j3b j4
    have hsm := j3b (Nat.pow_pos (by omega))
    cases hq : d_pk c L nt (d + 2) ((d + 2) ^ nt) with
    | none => rw [hq] at hsm; cases hsm
    | some bb =>
      obtain ⟨v, w⟩ := bb
      obtain ⟨w1, w2⟩ := j4 v w hq
      have e8 : p 61 8 = nI nt := by rw [j1 61 8 (by decide) (by omega) (by decide) (by decide) (by decide) (by decide)]; exact e80
      have e76 : ∀ k, k < nt → p 76 k = q 69 k := fun k hk => by rw [j1 76 k (by omega) (by omega) (by decide) (by decide) (by decide) (by decide)]; exact F2 k hk
      -- restore
      obtain ⟨p4, hr, hR⟩ := loop_inv (fun k (x : Nat → Nat → Int32) => ev E 168 (am_B 168 (Int.toNat 184)) [.ref 61, .int (nI (d + 1)), .int (nI ((d + 2) ^ nt)), .int (nI k), xv, yv] [] (HH x r)) (fun k x => (∀ a b, ¬ (a = 69 ∧ b < nt) → x a b = p a b) ∧ ∀ u, u < k → x 69 u = q 69 u) nt (fun k x hk hj => by
        have hk5 : k < 5 := by omega
        have e8x : x 61 8 = nI nt := by rw [hj.1 61 8 (by omega)]; exact e8
        have e76x : x 76 k = q 69 k := by rw [hj.1 76 k (by omega)]; exact e76 k hk
        refine ⟨am_up x 69 k (q 69 k), hd b_168_184 ?_, fun a b h => by rw [am_upa, if_neg (fun z => h ⟨z.1, by omega⟩)]; exact hj.1 a b h, fun u hu => ?_⟩
        · simp only [b_168_e, b_168_36, b_168_93, b_168_128, b_168_176, b_168_182, b_168_210, k_1, e_istore_2, e_kpi, e_kpr, e_kpl, e_kpd, k_0, e_istore_3, e_jsr, e_iload_3, e_aloadr_0, g_584_61, e_icmp_ge, g_605_61, g_587_61, il_62, il_63, il_64, il_66, il_67, il_68, il_69, il_70, il_71, il_72, il_73, il_74, il_75, il_76, il_77, ik_62_0, ik_62_1, ik_62_2, ik_62_3, ik_62_4, ik_73_0, ik_74_0, is_62, is_63, is_64, is_66, is_67, is_68, is_69, is_70, is_71, is_72, is_73, is_74, is_75, is_76, is_77, iks_73_0, iks_74_0, e_iload_2, e_iload_1, e_iadd, e_imul, e_iinc_3, e_goto, kl_m1, p_607_61, e_istore_4, e_isub, e_istore_5, e_iload_5, e_if_lt, e_iload_4, e_irem, e_idiv, e_iinc_5, Option.toList_some, Option.toList_none, List.cons_append, List.nil_append, g_607_61, kl_0, e_lcmp, g_603_61, g_608_61, e_lmul, g_604_61, e_if_ge, p_608_61, g_606_61, e_ret, eq_self, e8x, lec (show nt < 1000 by omega) hk, hk5, e76x, not_true_eq_false, not_false_eq_true, if_true, if_false, true_or, or_true, false_or, or_false, true_and, and_true, false_and, and_false, and_self, or_self, reduceIte, Bool.false_eq_true, i10, i01, e_inc1]
        · rw [am_upa]
          by_cases e : u = k
          · rw [if_pos ⟨rfl, e⟩, e]
          · rw [if_neg (fun z => e z.2)]; exact hj.2 u (by omega)) p ⟨fun _ _ _ => rfl, fun u hu => by omega⟩
      have e84 : p4 61 8 = nI nt := by rw [hR.1 61 8 (by omega)]; exact e8
      refine ⟨p4, r, ?_, fun a b x1 x2 x3 x4 x5 x6 => ?_, j2, v, w, rfl, w1, fun k hk => by rw [hR.1 77 k (by omega)]; exact w2 k hk⟩
      · refine Eq.trans (show _ = _ from hl) (hd b_168_45 ?_)
        have hend : ev E 168 (am_B 168 (Int.toNat 184)) [.ref 61, .int (nI (d + 1)), .int (nI ((d + 2) ^ nt)), .int (nI nt), xv, yv] [] (HH p4 r) = some (none, HH p4 r) := by
          refine hd b_168_184 ?_
          simp only [b_168_e, b_168_36, b_168_93, b_168_128, b_168_176, b_168_182, b_168_210, k_1, e_istore_2, e_kpi, e_kpr, e_kpl, e_kpd, k_0, e_istore_3, e_jsr, e_iload_3, e_aloadr_0, g_584_61, e_icmp_ge, g_605_61, g_587_61, il_62, il_63, il_64, il_66, il_67, il_68, il_69, il_70, il_71, il_72, il_73, il_74, il_75, il_76, il_77, ik_62_0, ik_62_1, ik_62_2, ik_62_3, ik_62_4, ik_73_0, ik_74_0, is_62, is_63, is_64, is_66, is_67, is_68, is_69, is_70, is_71, is_72, is_73, is_74, is_75, is_76, is_77, iks_73_0, iks_74_0, e_iload_2, e_iload_1, e_iadd, e_imul, e_iinc_3, e_goto, kl_m1, p_607_61, e_istore_4, e_isub, e_istore_5, e_iload_5, e_if_lt, e_iload_4, e_irem, e_idiv, e_iinc_5, Option.toList_some, Option.toList_none, List.cons_append, List.nil_append, g_607_61, kl_0, e_lcmp, g_603_61, g_608_61, e_lmul, g_604_61, e_if_ge, p_608_61, g_606_61, e_ret, eq_self, e84, lecc, not_true_eq_false, not_false_eq_true, if_true, if_false, true_or, or_true, false_or, or_false, true_and, and_true, false_and, and_false, and_self, or_self, reduceIte, Bool.false_eq_true, i10, i01]
        rw [← hend, ← hr]
        simp only [b_168_e, b_168_36, b_168_93, b_168_128, b_168_176, b_168_182, b_168_210, k_1, e_istore_2, e_kpi, e_kpr, e_kpl, e_kpd, k_0, e_istore_3, e_jsr, e_iload_3, e_aloadr_0, g_584_61, e_icmp_ge, g_605_61, g_587_61, il_62, il_63, il_64, il_66, il_67, il_68, il_69, il_70, il_71, il_72, il_73, il_74, il_75, il_76, il_77, ik_62_0, ik_62_1, ik_62_2, ik_62_3, ik_62_4, ik_73_0, ik_74_0, is_62, is_63, is_64, is_66, is_67, is_68, is_69, is_70, is_71, is_72, is_73, is_74, is_75, is_76, is_77, iks_73_0, iks_74_0, e_iload_2, e_iload_1, e_iadd, e_imul, e_iinc_3, e_goto, kl_m1, p_607_61, e_istore_4, e_isub, e_istore_5, e_iload_5, e_if_lt, e_iload_4, e_irem, e_idiv, e_iinc_5, Option.toList_some, Option.toList_none, List.cons_append, List.nil_append, g_607_61, kl_0, e_lcmp, g_603_61, g_608_61, e_lmul, g_604_61, e_if_ge, p_608_61, g_606_61, e_ret, eq_self, lecc, not_true_eq_false, not_false_eq_true, if_true, if_false, true_or, or_true, false_or, or_false, true_and, and_true, false_and, and_false, and_self, or_self, reduceIte, Bool.false_eq_true, i10, i01]
        rfl
      · by_cases e : a = 69 ∧ b < nt
        · rw [e.1]; exact hR.2 b e.2
        · rw [hR.1 a b e, j1 a b (by omega) e x2 x3 x4 x6, F1 a b x5]
  obtain ⟨p, r, e1, e2⟩ := hst
  refine ⟨p, r, ?_, e2⟩
  rw [← e1]
  have h10 : ev E 168 (am_B 168 (Int.toNat 4)) [.ref 61, .int (nI (d + 1)), .int (nI ((d + 2) ^ nt)), .int (nI nt), am_dm, am_dm] [] (HH q0 ml) = ev E 168 (am_B 168 (Int.toNat 45)) [.ref 61, .int (nI (d + 1)), .int (nI ((d + 2) ^ nt)), .int (nI 0), am_dm, am_dm] [] (HH q0 (am_up ml 61 31 (-1))) := by
    refine hd b_168_4 ?_
    simp only [b_168_e, b_168_36, b_168_93, b_168_128, b_168_176, b_168_182, b_168_210, k_1, e_istore_2, e_kpi, e_kpr, e_kpl, e_kpd, k_0, e_istore_3, e_jsr, e_iload_3, e_aloadr_0, g_584_61, e_icmp_ge, g_605_61, g_587_61, il_62, il_63, il_64, il_66, il_67, il_68, il_69, il_70, il_71, il_72, il_73, il_74, il_75, il_76, il_77, ik_62_0, ik_62_1, ik_62_2, ik_62_3, ik_62_4, ik_73_0, ik_74_0, is_62, is_63, is_64, is_66, is_67, is_68, is_69, is_70, is_71, is_72, is_73, is_74, is_75, is_76, is_77, iks_73_0, iks_74_0, e_iload_2, e_iload_1, e_iadd, e_imul, e_iinc_3, e_goto, kl_m1, p_607_61, e_istore_4, e_isub, e_istore_5, e_iload_5, e_if_lt, e_iload_4, e_irem, e_idiv, e_iinc_5, Option.toList_some, Option.toList_none, List.cons_append, List.nil_append, g_607_61, kl_0, e_lcmp, g_603_61, g_608_61, e_lmul, g_604_61, e_if_ge, p_608_61, g_606_61, e_ret, eq_self, e80, lecc, not_true_eq_false, not_false_eq_true, if_true, if_false, true_or, or_true, false_or, or_false, true_and, and_true, false_and, and_false, and_self, or_self, reduceIte, Bool.false_eq_true, i10, i01]
    rfl
  rw [← h10, ← hf]
  simp only [b_168_e, b_168_36, b_168_93, b_168_128, b_168_176, b_168_182, b_168_210, k_1, e_istore_2, e_kpi, e_kpr, e_kpl, e_kpd, k_0, e_istore_3, e_jsr, e_iload_3, e_aloadr_0, g_584_61, e_icmp_ge, g_605_61, g_587_61, il_62, il_63, il_64, il_66, il_67, il_68, il_69, il_70, il_71, il_72, il_73, il_74, il_75, il_76, il_77, ik_62_0, ik_62_1, ik_62_2, ik_62_3, ik_62_4, ik_73_0, ik_74_0, is_62, is_63, is_64, is_66, is_67, is_68, is_69, is_70, is_71, is_72, is_73, is_74, is_75, is_76, is_77, iks_73_0, iks_74_0, e_iload_2, e_iload_1, e_iadd, e_imul, e_iinc_3, e_goto, kl_m1, p_607_61, e_istore_4, e_isub, e_istore_5, e_iload_5, e_if_lt, e_iload_4, e_irem, e_idiv, e_iinc_5, Option.toList_some, Option.toList_none, List.cons_append, List.nil_append, g_607_61, kl_0, e_lcmp, g_603_61, g_608_61, e_lmul, g_604_61, e_if_ge, p_608_61, g_606_61, e_ret, eq_self, Nat.pow_zero]
  rfl
end Pk2
