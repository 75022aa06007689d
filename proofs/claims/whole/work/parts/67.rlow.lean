/-! THE REFERENCE'S DAY: findLowest, isSafe -/
/-- the reference's trains are those of L, put off so -/
def rW (q : Nat → Nat → Int32) (nt : Nat) (L : Nat → Nat → Int32) (off : Nat → Nat) : Prop := q 61 8 = nI nt ∧ (∀ k, k < nt → q 69 k = nI (off k) ∧ off k ≤ 5) ∧ (∀ k, k < nt → ∀ t, t < 24 → q 67 (24 * k + t) = tP L k t + 1 ∧ (¬ tP L k t = -1 → q 68 (24 * k + t) = tA L k t)) ∧ ∀ j, j < 120 → ¬ q 67 j - 1 = -9
def rZ (q : Nat → Nat → Int32) (n I nt : Nat) (c : qC) (L : Nat → Nat → Int32) (off : Nat → Nat) : Prop := rS q n I c ∧ rR q c ∧ rW q nt L off
theorem i32_p1m1 {x : Int32} : x + 1 - 1 = x := by rw [Int32.add_sub_cancel]
theorem i32_p1z {x : Int32} : (x + 1 = 0) ↔ x = -1 := by
  constructor
  · intro h
    have : x + 1 - 1 = 0 - 1 := by rw [h]
    rw [i32_p1m1] at this
    exact this
  · intro h; rw [h]; decide
theorem rW_D {q L : Nat → Nat → Int32} {nt t : Nat} {off : Nat → Nat} (h : rW q nt L off) (hT : LiT L nt) (ht : t < 24) : rD q nt t (kL L off nt t) := by
  obtain ⟨h1, h2, h3, h4⟩ := h
  have hb := kL_bd (off := off) hT ht
  have ho : ∀ k, k < nt → oF q 69 k = off k := fun k hk => by unfold oF; rw [(h2 k hk).1]; exact nI_cl9 (by have := (h2 k hk).2; omega)
  refine ⟨h1, hT.1, fun k hk => ⟨by rw [ho k hk]; exact h2 k hk, ?_, fun hth => ?_⟩, fun k hk => (hb k).2, fun k hk => ?_, h4⟩
  · show mTh q t k = kth L off nt t k
    unfold mTh kth mI
    rw [ho k hk]
    by_cases hle : off k ≤ t
    · rw [(h3 k hk (t - off k) (by omega)).1]
      by_cases hz : tP L k (t - off k) = -1
      · have := i32_p1z.mpr hz
        simp [this, hz]
      · have : ¬ tP L k (t - off k) + 1 = 0 := fun z => hz (i32_p1z.mp z)
        simp [this, hz, hle, hk]
    · simp [hle]
  · obtain ⟨g1, g2, g3, g4⟩ := (hb k).1 hth
    have hne : ¬ tP L k (t - off k) = -1 := fun z => by
      rw [z] at g3
      unfold bd at g3
      have : (-1 : Int32).toInt = -1 := rfl
      omega
    obtain ⟨e1, e2⟩ := h3 k g1 (t - off k) (by omega)
    unfold mI
    rw [ho k g1, e1, e2 hne, i32_p1m1]
    have eam : q_am (kL L off nt t) k = if kth L off nt t k = true then (tA L k (t - off k)).toInt else 0 := rfl
    have hth' : kth L off nt t k = true := hth
    exact ⟨g3, rfl, by rw [eam, if_pos hth']⟩
  · show kth L off nt t k = false
    unfold kth
    have : ¬ k < nt := by omega
    simp [this]
/-- cells that the reference's day changes -/
def h1 (p q : Nat → Nat → Int32) : Prop := ∀ a b, ¬ (a = 61 ∧ (b = 15 ∨ b = 18 ∨ b = 22 ∨ b = 25 ∨ b = 26 ∨ b = 33)) → ¬ a = 73 → ¬ a = 74 → ¬ a = 75 → ¬ a = 76 → ¬ a = 77 → p a b = q a b
def k1 (r s : Nat → Nat → Int64) : Prop := ∀ a b, ¬ a = 61 → r a b = s a b
theorem h1_rf {q : Nat → Nat → Int32} : h1 q q := fun _ _ _ _ _ _ _ _ => rfl
theorem h1_tr {p q r : Nat → Nat → Int32} (a1 : h1 p q) (a2 : h1 q r) : h1 p r := fun a b x1 x2 x3 x4 x5 x6 => by rw [a1 a b x1 x2 x3 x4 x5 x6, a2 a b x1 x2 x3 x4 x5 x6]
theorem h1_fq {p q : Nat → Nat → Int32} (h : fq p q) : h1 p q := fun a b x1 x2 x3 x4 x5 x6 => h a b (by omega) x2 x3 x4
theorem k1_rf {q : Nat → Nat → Int64} : k1 q q := fun _ _ _ => rfl
theorem k1_tr {p q r : Nat → Nat → Int64} (a1 : k1 p q) (a2 : k1 q r) : k1 p r := fun a b x => by rw [a1 a b x, a2 a b x]
theorem k1_ux {r s : Nat → Nat → Int64} (h : ux s r) : k1 r s := fun a b x => h a b (fun z => x z.1)
theorem rZ_h1 {p q L : Nat → Nat → Int32} {n I nt : Nat} {c : qC} {off : Nat → Nat} (h : rZ q n I nt c L off) (hf : h1 p q) : rZ p n I nt c L off := by
  obtain ⟨z1, z2, w1, w2, w3, w4⟩ := h
  have e : ∀ a b, 62 ≤ a ∧ a ≤ 72 → p a b = q a b := fun a b z => hf a b (by omega) (by omega) (by omega) (by omega) (by omega) (by omega)
  refine ⟨rS_of z1 (hf 61 3 (by decide) (by decide) (by decide) (by decide) (by decide) (by decide)) (fun b => e 64 b (by omega)) (fun b => e 65 b (by omega)), rR_of z2 (fun b => e 62 b (by omega)), by rw [hf 61 8 (by decide) (by decide) (by decide) (by decide) (by decide) (by decide)]; exact w1, fun k hk => by rw [e 69 k (by omega)]; exact w2 k hk, fun k hk t ht => by rw [e 67 _ (by omega), e 68 _ (by omega)]; exact w3 k hk t ht, fun j hj => by rw [e 67 j (by omega)]; exact w4 j hj⟩
theorem rE_of {p q : Nat → Nat → Int32} {n I K : Nat} {c : qC} {l : qL} (h : rE q n I K c l) (e : ∀ a b, (a = 61 ∧ (b = 3 ∨ b = 15 ∨ b = 18)) ∨ a = 62 ∨ a = 64 ∨ a = 65 ∨ a = 73 ∨ a = 74 → p a b = q a b) : rE p n I K c l := by
  obtain ⟨a1, a2, a3, a4, a5⟩ := h
  exact ⟨rS_of a1 (e 61 3 (by simp)) (fun b => e 64 b (by simp)) (fun b => e 65 b (by simp)), rR_of a2 (fun b => e 62 b (by simp)), rL_of a3 (e 61 15 (by simp)) (fun b => e 73 b (by simp)) (fun b => e 74 b (by simp)), by rw [e 61 18 (by simp)]; exact a4, a5⟩
/-- finer -/
def h0 (p q : Nat → Nat → Int32) : Prop := ∀ a b, ¬ (a = 61 ∧ (b = 15 ∨ b = 18 ∨ b = 22 ∨ b = 25 ∨ b = 26)) → ¬ a = 73 → ¬ a = 74 → ¬ a = 75 → p a b = q a b
def k3 (r s : Nat → Nat → Int64) : Prop := ∀ a b, ¬ (a = 61 ∧ (b = 19 ∨ b = 20 ∨ b = 23 ∨ b = 24)) → r a b = s a b
theorem h0_rf {q : Nat → Nat → Int32} : h0 q q := fun _ _ _ _ _ _ => rfl
theorem h0_tr {p q r : Nat → Nat → Int32} (a1 : h0 p q) (a2 : h0 q r) : h0 p r := fun a b x1 x2 x3 x4 => by rw [a1 a b x1 x2 x3 x4, a2 a b x1 x2 x3 x4]
theorem h0_fq {p q : Nat → Nat → Int32} (h : fq p q) : h0 p q := fun a b x1 x2 x3 x4 => h a b (by omega) x2 x3 x4
theorem h1_h0 {p q : Nat → Nat → Int32} (h : h0 p q) : h1 p q := fun a b x1 x2 x3 x4 x5 x6 => h a b (by omega) x2 x3 x4
theorem k3_rf {q : Nat → Nat → Int64} : k3 q q := fun _ _ _ => rfl
theorem k3_tr {p q r : Nat → Nat → Int64} (a1 : k3 p q) (a2 : k3 q r) : k3 p r := fun a b x => by rw [a1 a b x, a2 a b x]
theorem k3_ux {r s : Nat → Nat → Int64} (h : ux s r) : k3 r s := fun a b x => h a b (by omega)
theorem k1_k3 {r s : Nat → Nat → Int64} (h : k3 r s) : k1 r s := fun a b x => h a b (fun z => x z.1)
section Rl
variable {E : aE} {n I nt : Nat} {c : qC} {L : Nat → Nat → Int32} {off : Nat → Nat}
theorem x_tick {q : Nat → Nat → Int32} {ml : Nat → Nat → Int64} {t : Nat} (hZ : rZ q n I nt c L off) (hT : LiT L nt) (ht : t < 24) (hm : 0 < q_m c) : ∃ q' ml', ev E 142 (am_B 142 0) [.ref 61, .int (nI t), am_dm] [] (HH q ml) = some (none, HH q' ml') ∧ fq q' q ∧ rE q' n I (cntB (q_th (kL L off nt t)) 5) c (q_end c (kL L off nt t)) ∧ ux ml ml' ∧ ∀ k, k < nt → q' 75 k = lof (q_th (kL L off nt t)) k := x_solve hZ.1 hZ.2.1 (rW_D hZ.2.2 hT ht) ht hm
/-- volts at train i, read by the reference -/
theorem x_volt {p : Nat → Nat → Int32} {le : qL} {K i : Nat} (hE : rE p n I K c le) (hi : i < 5) (ht : q_th le i = true) : fr2 (Int64.ofInt (vlu p K n (p 61 18) (p 73 (cntB (q_th le) i)))) (Int64.ofInt (vld p n (p 61 18) (p 73 (cntB (q_th le) i)))) (q_vn c le i) 1000000000000 ∧ cntB (q_th le) i < K ∧ K ≤ 5 := by
  obtain ⟨a1, a2, a3, a4, a5⟩ := hE
  refine ⟨by rw [a4]; exact r_vk a1 a2 a3 hi ht, by rw [a3.2.1]; exact cntB_in ht hi, r_K a3⟩
theorem x_lowT {q : Nat → Nat → Int32} {ml : Nat → Nat → Int64} {le : qL} {K t : Nat} {o : dLw} (hE : rE q n I K c le) (hm : 0 < q_m c) (h8 : q 61 8 = nI nt) (hnt5 : nt ≤ 5) (h75 : ∀ k, k < nt → q 75 k = lof (q_th le) k) (hany : q 61 22 = if o.isSome = true then 1 else 0) (ho : d_in o (ml 61 23) (ml 61 24) (q 61 25) (q 61 26)) : ∃ p r, ev E 157 (am_B 157 (Int.toNat 20)) [.ref 61, .int (nI t), .int (nI 0)] [] (HH q ml) = ev E 157 (am_B 157 (Int.toNat 20)) [.ref 61, .int (nI t), .int (nI nt)] [] (HH p r) ∧ (∀ a b, ¬ (a = 61 ∧ (b = 22 ∨ b = 25 ∨ b = 26)) → p a b = q a b) ∧ k3 r ml ∧ p 61 22 = (if (d_lowT c le t o nt).isSome = true then 1 else 0) ∧ d_in (d_lowT c le t o nt) (r 61 23) (r 61 24) (p 61 25) (p 61 26) := by
  obtain ⟨s', hl, hJ⟩ := loop_inv (fun i (s : (Nat → Nat → Int32) × (Nat → Nat → Int64)) => ev E 157 (am_B 157 (Int.toNat 20)) [.ref 61, .int (nI t), .int (nI i)] [] (HH s.1 s.2)) (fun i s => (∀ a b, ¬ (a = 61 ∧ (b = 22 ∨ b = 25 ∨ b = 26)) → s.1 a b = q a b) ∧ k3 s.2 ml ∧ s.1 61 22 = (if (d_lowT c le t o i).isSome = true then 1 else 0) ∧ d_in (d_lowT c le t o i) (s.2 61 23) (s.2 61 24) (s.1 61 25) (s.1 61 26)) nt (fun i s hi hj => by
    obtain ⟨p, r⟩ := s
    obtain ⟨j1, j2, j3, j4⟩ := hj
    dsimp only at j1 j2 j3 j4 ⊢
    have hi5 : i < 5 := by omega
    have hEp : rE p n I K c le := rE_of hE (fun a b z => j1 a b (by omega))
    have e8 : p 61 8 = nI nt := by rw [j1 61 8 (by decide)]; exact h8
    have e75 : p 75 i = lof (q_th le) i := by rw [j1 75 i (by simp)]; exact h75 i hi
    rw [d_lowT]
    cases ht : q_th le i with
    | false =>
      have hlo : lof (q_th le) i = -9 := by unfold lof; rw [if_neg (by simp [ht])]; rfl
      refine ⟨(p, r), hd b_157_20 ?_, j1, j2, j3, j4⟩
      simp only [b_157_e, b_157_42, b_157_90, b_157_121, b_157_127, b_157_133, e_aloadr_0, k_0, p_598_61, e_istore_1, e_kpi, e_kpr, e_kpl, e_kpd, e_jsr, e_iload_1, k_24, e_icmp_ge, Option.toList_some, Option.toList_none, List.cons_append, List.nil_append, e_istore_2, e_iload_2, g_584_61, g_597_61, il_62, il_63, il_64, il_66, il_67, il_68, il_69, il_70, il_71, il_72, il_73, il_74, il_75, il_76, il_77, ik_62_0, ik_62_1, ik_62_2, ik_62_3, ik_62_4, ik_73_0, ik_74_0, k_m9, e_icmp_ne, e_goto, g_594_61, g_592_61, cc_M_findVolts_0, cc_M_findVolts_1, cc_M_findVolts_2, cc_M_findVolts_3, g_598_61, e_if_eq, g_595_61, g_600_61, e_lmul, g_599_61, g_596_61, e_lcmp, e_if_ge, k_1, p_599_61, p_600_61, p_601_61, p_602_61, e_iinc_2, e_iinc_1, e_ret, eq_self, e8, lec (show nt < 1000 by omega) hi, hi5, e75, hlo, n9n9, not_true_eq_false, not_false_eq_true, if_true, if_false, true_or, or_true, false_or, or_false, true_and, and_true, false_and, and_false, and_self, or_self, reduceIte, Bool.false_eq_true, i10, i01, e_inc1]
    | true =>
      have hlo : lof (q_th le) i = nI (cntB (q_th le) i) := by unfold lof; rw [if_pos ht]; rfl
      obtain ⟨v1, v2, v3⟩ := x_volt hEp hi5 ht
      have hk5 : cntB (q_th le) i < 5 := by omega
      obtain ⟨a1, a2, a3, a4, a5⟩ := id hEp
      obtain ⟨s1, s2, s3, s4, s5, s6, s7, s8, s9⟩ := id a1
      have hy := r_y a3
      have hex := r_ex (l := le) a1 hm a5
      rw [← a4] at hex
      have eud : ∀ (u d : Int) b, ¬ b = 19 → ¬ b = 20 → ud r u d 61 b = r 61 b := fun u d b x1 x2 => ux_ud 61 b (by omega)
      cases ho2 : d_lowT c le t o i with
      | none =>
        rw [ho2] at j3
        refine ⟨(am_up (am_up (am_up p 61 22 1) 61 25 (nI t)) 61 26 (nI i), am_up (am_up (ud r (vlu p K n (p 61 18) (p 73 (cntB (q_th le) i))) (vld p n (p 61 18) (p 73 (cntB (q_th le) i)))) 61 23 (Int64.ofInt (vlu p K n (p 61 18) (p 73 (cntB (q_th le) i))))) 61 24 (Int64.ofInt (vld p n (p 61 18) (p 73 (cntB (q_th le) i))))), hd b_157_20 ?_, ?_, ?_, ?_, ?_⟩
        · have ea : ∀ (u d : Int) (x : Int64), am_up (ud r u d) 61 23 x 61 20 = Int64.ofInt d := fun u d x => by rw [am_upa, if_neg (by decide), ud_d]
          simp only [b_157_e, b_157_42, b_157_90, b_157_121, b_157_127, b_157_133, e_aloadr_0, k_0, p_598_61, e_istore_1, e_kpi, e_kpr, e_kpl, e_kpd, e_jsr, e_iload_1, k_24, e_icmp_ge, Option.toList_some, Option.toList_none, List.cons_append, List.nil_append, e_istore_2, e_iload_2, g_584_61, g_597_61, il_62, il_63, il_64, il_66, il_67, il_68, il_69, il_70, il_71, il_72, il_73, il_74, il_75, il_76, il_77, ik_62_0, ik_62_1, ik_62_2, ik_62_3, ik_62_4, ik_73_0, ik_74_0, k_m9, e_icmp_ne, e_goto, g_594_61, g_592_61, cc_M_findVolts_0, cc_M_findVolts_1, cc_M_findVolts_2, cc_M_findVolts_3, g_598_61, e_if_eq, g_595_61, g_600_61, e_lmul, g_599_61, g_596_61, e_lcmp, e_if_ge, k_1, p_599_61, p_600_61, p_601_61, p_602_61, e_iinc_2, e_iinc_1, e_ret, eq_self, e8, lec (show nt < 1000 by omega) hi, hi5, hk5, e75, hlo, eq_n9 (show cntB (q_th le) i < 1000 by omega), cc_M_findVolts_0 s1 s2 a3.1 v3 (hy _ v2) s3 hy hex, j3, Option.isSome_none, or_true, ud_u, ud_d, ea, vlu, vld, not_true_eq_false, not_false_eq_true, if_true, if_false, true_or, or_true, false_or, or_false, true_and, and_true, false_and, and_false, and_self, or_self, reduceIte, Bool.false_eq_true, i10, i01, e_inc1]
        · intro a b h
          dsimp only
          rw [am_upa, if_neg (by omega), am_upa, if_neg (by omega), am_upa, if_neg (by omega)]
          exact j1 a b h
        · intro a b h
          dsimp only
          rw [am_upa, if_neg (by omega), am_upa, if_neg (by omega), ux_ud a b (by omega)]
          exact j2 a b h
        · dsimp only
          rw [am_upa, if_neg (by decide), am_upa, if_neg (by decide), am_up_self]; rfl
        · intro v t' n' h
          cases h
          dsimp only
          rw [am_upa, if_neg (by decide), am_up_self, am_up_self, am_upa, if_neg (by decide), am_up_self, am_up_self]
          exact ⟨v1, rfl, rfl⟩
      | some b =>
        obtain ⟨bv, bt', bn⟩ := b
        rw [ho2] at j3
        obtain ⟨w1, w2, w3⟩ := j4 bv bt' bn ho2
        have hcmp := fr2_lt v1 w1 (Nat.le_refl _)
        have hcmp' := hcmp
        unfold vlu vld at hcmp'
        by_cases hlt : q_vn c le i < bv
        · refine ⟨(am_up (am_up (am_up p 61 22 1) 61 25 (nI t)) 61 26 (nI i), am_up (am_up (ud r (vlu p K n (p 61 18) (p 73 (cntB (q_th le) i))) (vld p n (p 61 18) (p 73 (cntB (q_th le) i)))) 61 23 (Int64.ofInt (vlu p K n (p 61 18) (p 73 (cntB (q_th le) i))))) 61 24 (Int64.ofInt (vld p n (p 61 18) (p 73 (cntB (q_th le) i))))), hd b_157_20 ?_, ?_, ?_, ?_, ?_⟩
          · have ea : ∀ (u d : Int) (x : Int64), am_up (ud r u d) 61 23 x 61 20 = Int64.ofInt d := fun u d x => by rw [am_upa, if_neg (by decide), ud_d]
            have e23 : ∀ u d, ud r u d 61 23 = r 61 23 := fun u d => eud u d 23 (by decide) (by decide)
            have e24 : ∀ u d, ud r u d 61 24 = r 61 24 := fun u d => eud u d 24 (by decide) (by decide)
            simp only [b_157_e, b_157_42, b_157_90, b_157_121, b_157_127, b_157_133, e_aloadr_0, k_0, p_598_61, e_istore_1, e_kpi, e_kpr, e_kpl, e_kpd, e_jsr, e_iload_1, k_24, e_icmp_ge, Option.toList_some, Option.toList_none, List.cons_append, List.nil_append, e_istore_2, e_iload_2, g_584_61, g_597_61, il_62, il_63, il_64, il_66, il_67, il_68, il_69, il_70, il_71, il_72, il_73, il_74, il_75, il_76, il_77, ik_62_0, ik_62_1, ik_62_2, ik_62_3, ik_62_4, ik_73_0, ik_74_0, k_m9, e_icmp_ne, e_goto, g_594_61, g_592_61, cc_M_findVolts_0, cc_M_findVolts_1, cc_M_findVolts_2, cc_M_findVolts_3, g_598_61, e_if_eq, g_595_61, g_600_61, e_lmul, g_599_61, g_596_61, e_lcmp, e_if_ge, k_1, p_599_61, p_600_61, p_601_61, p_602_61, e_iinc_2, e_iinc_1, e_ret, eq_self, e8, lec (show nt < 1000 by omega) hi, hi5, hk5, e75, hlo, eq_n9 (show cntB (q_th le) i < 1000 by omega), cc_M_findVolts_0 s1 s2 a3.1 v3 (hy _ v2) s3 hy hex, j3, Option.isSome_some, or_true, ud_u, ud_d, e23, e24, lg_cmp_ge, nle64, hcmp', hlt, ea, vlu, vld, not_true_eq_false, not_false_eq_true, if_true, if_false, true_or, or_true, false_or, or_false, true_and, and_true, false_and, and_false, and_self, or_self, reduceIte, Bool.false_eq_true, i10, i01, e_inc1]
          · intro a b h
            dsimp only
            rw [am_upa, if_neg (by omega), am_upa, if_neg (by omega), am_upa, if_neg (by omega)]
            exact j1 a b h
          · intro a b h
            dsimp only
            rw [am_upa, if_neg (by omega), am_upa, if_neg (by omega), ux_ud a b (by omega)]
            exact j2 a b h
          · dsimp only
            rw [am_upa, if_neg (by decide), am_upa, if_neg (by decide), am_up_self, if_pos rfl, if_pos hlt]; rfl
          · intro v t' n' h
            dsimp only at h
            rw [if_pos rfl, if_pos hlt] at h
            cases h
            dsimp only
            rw [am_upa, if_neg (by decide), am_up_self, am_up_self, am_upa, if_neg (by decide), am_up_self, am_up_self]
            exact ⟨v1, rfl, rfl⟩
        · refine ⟨(p, ud r (vlu p K n (p 61 18) (p 73 (cntB (q_th le) i))) (vld p n (p 61 18) (p 73 (cntB (q_th le) i)))), hd b_157_20 ?_, j1, k3_tr (k3_ux ux_ud) j2, ?_, ?_⟩
          · have e23 : ∀ u d, ud r u d 61 23 = r 61 23 := fun u d => eud u d 23 (by decide) (by decide)
            have e24 : ∀ u d, ud r u d 61 24 = r 61 24 := fun u d => eud u d 24 (by decide) (by decide)
            simp only [b_157_e, b_157_42, b_157_90, b_157_121, b_157_127, b_157_133, e_aloadr_0, k_0, p_598_61, e_istore_1, e_kpi, e_kpr, e_kpl, e_kpd, e_jsr, e_iload_1, k_24, e_icmp_ge, Option.toList_some, Option.toList_none, List.cons_append, List.nil_append, e_istore_2, e_iload_2, g_584_61, g_597_61, il_62, il_63, il_64, il_66, il_67, il_68, il_69, il_70, il_71, il_72, il_73, il_74, il_75, il_76, il_77, ik_62_0, ik_62_1, ik_62_2, ik_62_3, ik_62_4, ik_73_0, ik_74_0, k_m9, e_icmp_ne, e_goto, g_594_61, g_592_61, cc_M_findVolts_0, cc_M_findVolts_1, cc_M_findVolts_2, cc_M_findVolts_3, g_598_61, e_if_eq, g_595_61, g_600_61, e_lmul, g_599_61, g_596_61, e_lcmp, e_if_ge, k_1, p_599_61, p_600_61, p_601_61, p_602_61, e_iinc_2, e_iinc_1, e_ret, eq_self, e8, lec (show nt < 1000 by omega) hi, hi5, hk5, e75, hlo, eq_n9 (show cntB (q_th le) i < 1000 by omega), cc_M_findVolts_0 s1 s2 a3.1 v3 (hy _ v2) s3 hy hex, j3, Option.isSome_some, ud_u, ud_d, e23, e24, lg_cmp_ge, nle64, hcmp', hlt, vlu, vld, not_true_eq_false, not_false_eq_true, if_true, if_false, true_or, or_true, false_or, or_false, true_and, and_true, false_and, and_false, and_self, or_self, reduceIte, Bool.false_eq_true, i10, i01, e_inc1]
          · dsimp only
            rw [j3, if_pos rfl, if_neg hlt]
          · intro v t' n' h
            dsimp only at h
            rw [if_pos rfl, if_neg hlt] at h
            cases h
            dsimp only
            rw [eud _ _ 23 (by decide) (by decide), eud _ _ 24 (by decide) (by decide)]
            exact ⟨w1, w2, w3⟩) (q, ml) ⟨fun _ _ _ => rfl, k3_rf, hany, ho⟩
  exact ⟨s'.1, s'.2, hl, hJ.1, hJ.2.1, hJ.2.2.1, hJ.2.2.2⟩
theorem x_lowS {q : Nat → Nat → Int32} {ml : Nat → Nat → Int64} (hZ : rZ q n I nt c L off) (hT : LiT L nt) (hm : 0 < q_m c) : ∃ p r, ev E 157 (am_B 157 0) [.ref 61, am_dm, am_dm] [] (HH q ml) = some (none, HH p r) ∧ h0 p q ∧ k3 r ml ∧ p 61 22 = (if (d_low c (kL L off nt) nt 24).isSome = true then 1 else 0) ∧ d_in (d_low c (kL L off nt) nt 24) (r 61 23) (r 61 24) (p 61 25) (p 61 26) := by
  simp only [b_157_e, b_157_42, b_157_90, b_157_121, b_157_127, b_157_133, e_aloadr_0, k_0, p_598_61, e_istore_1, e_kpi, e_kpr, e_kpl, e_kpd, e_jsr, e_iload_1, k_24, e_icmp_ge, Option.toList_some, Option.toList_none, List.cons_append, List.nil_append, e_istore_2, e_iload_2, g_584_61, g_597_61, il_62, il_63, il_64, il_66, il_67, il_68, il_69, il_70, il_71, il_72, il_73, il_74, il_75, il_76, il_77, ik_62_0, ik_62_1, ik_62_2, ik_62_3, ik_62_4, ik_73_0, ik_74_0, k_m9, e_icmp_ne, e_goto, g_594_61, g_592_61, cc_M_findVolts_0, cc_M_findVolts_1, cc_M_findVolts_2, cc_M_findVolts_3, g_598_61, e_if_eq, g_595_61, g_600_61, e_lmul, g_599_61, g_596_61, e_lcmp, e_if_ge, k_1, p_599_61, p_600_61, p_601_61, p_602_61, e_iinc_2, e_iinc_1, e_ret, eq_self, true_or]
  obtain ⟨s', hl, hJ⟩ := loop_inv (fun i (s : (Nat → Nat → Int32) × (Nat → Nat → Int64) × Value) => ev E 157 (am_B 157 (Int.toNat 7)) [.ref 61, .int (nI i), s.2.2] [] (HH s.1 s.2.1)) (fun i s => h0 s.1 q ∧ k3 s.2.1 ml ∧ s.1 61 22 = (if (d_low c (kL L off nt) nt i).isSome = true then 1 else 0) ∧ d_in (d_low c (kL L off nt) nt i) (s.2.1 61 23) (s.2.1 61 24) (s.1 61 25) (s.1 61 26)) 24 (fun i s hi hj => by
    obtain ⟨p, r, x⟩ := s
    obtain ⟨j1, j2, j3, j4⟩ := hj
    dsimp only at j1 j2 j3 j4 ⊢
    have hZp := rZ_h1 hZ (h1_h0 j1)
    obtain ⟨p1, r1, e1, e2, e3, e4, e5⟩ := x_tick (E := E) (ml := r) hZp hT hi hm
    have cc1 : ∀ {M_ : Nat} {c_ : List Instr} {L_ : List Value}, ev E M_ (.invokevirtual 142 :: c_) L_ (.int (nI i) :: .ref 61 :: []) (HH p r) = ev E M_ c_ L_ [] (HH p1 r1) := fun {M_} {c_} {L_} => e_inv (as := [.ref 61, .int (nI i)]) (S := []) rfl rfl (Nat.le_of_ble_eq_true rfl) (rfl) (e1)
    have hth : q_th (q_end c (kL L off nt i)) = q_th (kL L off nt i) := (q_sol_th c 46 _).1
    have e8 : p1 61 8 = nI nt := by rw [e2 61 8 (by decide) (by decide) (by decide) (by decide)]; exact hZp.2.2.1
    obtain ⟨p2, r2, w1, w2, w3, w4, w5⟩ := x_lowT (E := E) (ml := r1) (t := i) (o := d_low c (kL L off nt) nt i) e3 hm e8 hT.1 (fun k hk => by rw [hth]; exact e5 k hk) (by rw [e2 61 22 (by decide) (by decide) (by decide) (by decide)]; exact j3) (by rw [e4 61 23 (by decide), e4 61 24 (by decide), e2 61 25 (by decide) (by decide) (by decide) (by decide), e2 61 26 (by decide) (by decide) (by decide) (by decide)]; exact j4)
    have e82 : p2 61 8 = nI nt := by rw [w2 61 8 (by decide)]; exact e8
    refine ⟨(p2, r2, .int (nI nt)), hd b_157_7 ?_, h0_tr (fun a b x1 x2 x3 x4 => w2 a b (by omega)) (h0_tr (h0_fq e2) j1), k3_tr w3 (k3_tr (k3_ux e4) j2), w4, w5⟩
    have hend : ev E 157 (am_B 157 (Int.toNat 20)) [.ref 61, .int (nI i), .int (nI nt)] [] (HH p2 r2) = ev E 157 (am_B 157 (Int.toNat 7)) [.ref 61, .int (nI (i + 1)), .int (nI nt)] [] (HH p2 r2) := by
      refine hd b_157_20 ?_
      simp only [b_157_e, b_157_42, b_157_90, b_157_121, b_157_127, b_157_133, e_aloadr_0, k_0, p_598_61, e_istore_1, e_kpi, e_kpr, e_kpl, e_kpd, e_jsr, e_iload_1, k_24, e_icmp_ge, Option.toList_some, Option.toList_none, List.cons_append, List.nil_append, e_istore_2, e_iload_2, g_584_61, g_597_61, il_62, il_63, il_64, il_66, il_67, il_68, il_69, il_70, il_71, il_72, il_73, il_74, il_75, il_76, il_77, ik_62_0, ik_62_1, ik_62_2, ik_62_3, ik_62_4, ik_73_0, ik_74_0, k_m9, e_icmp_ne, e_goto, g_594_61, g_592_61, cc_M_findVolts_0, cc_M_findVolts_1, cc_M_findVolts_2, cc_M_findVolts_3, g_598_61, e_if_eq, g_595_61, g_600_61, e_lmul, g_599_61, g_596_61, e_lcmp, e_if_ge, k_1, p_599_61, p_600_61, p_601_61, p_602_61, e_iinc_2, e_iinc_1, e_ret, eq_self, e82, lecc, not_true_eq_false, not_false_eq_true, if_true, if_false, true_or, or_true, false_or, or_false, true_and, and_true, false_and, and_false, and_self, or_self, reduceIte, Bool.false_eq_true, i10, i01, e_inc1]
    rw [← hend, ← w1]
    simp only [b_157_e, b_157_42, b_157_90, b_157_121, b_157_127, b_157_133, e_aloadr_0, k_0, p_598_61, e_istore_1, e_kpi, e_kpr, e_kpl, e_kpd, e_jsr, e_iload_1, k_24, e_icmp_ge, Option.toList_some, Option.toList_none, List.cons_append, List.nil_append, e_istore_2, e_iload_2, g_584_61, g_597_61, il_62, il_63, il_64, il_66, il_67, il_68, il_69, il_70, il_71, il_72, il_73, il_74, il_75, il_76, il_77, ik_62_0, ik_62_1, ik_62_2, ik_62_3, ik_62_4, ik_73_0, ik_74_0, k_m9, e_icmp_ne, e_goto, g_594_61, g_592_61, cc_M_findVolts_0, cc_M_findVolts_1, cc_M_findVolts_2, cc_M_findVolts_3, g_598_61, e_if_eq, g_595_61, g_600_61, e_lmul, g_599_61, g_596_61, e_lcmp, e_if_ge, k_1, p_599_61, p_600_61, p_601_61, p_602_61, e_iinc_2, e_iinc_1, e_ret, eq_self, le24 hi, cc1, not_true_eq_false, not_false_eq_true, if_true, if_false, true_or, or_true, false_or, or_false, true_and, and_true, false_and, and_false, and_self, or_self, reduceIte, Bool.false_eq_true, i10, i01]
    rfl) (am_up q 61 22 0, ml, am_dm) ⟨fun a b x1 x2 x3 x4 => by dsimp only; rw [am_upa, if_neg (by omega)], k3_rf, by dsimp only; rw [am_up_self]; rfl, fun v t n h => by cases h⟩
  obtain ⟨p, r, x⟩ := s'
  obtain ⟨j1, j2, j3, j4⟩ := hJ
  dsimp only at hl j1 j2 j3 j4
  refine ⟨p, r, Eq.trans (show _ = _ from hl) (hd b_157_7 ?_), j1, j2, j3, j4⟩
  simp only [b_157_e, b_157_42, b_157_90, b_157_121, b_157_127, b_157_133, e_aloadr_0, k_0, p_598_61, e_istore_1, e_kpi, e_kpr, e_kpl, e_kpd, e_jsr, e_iload_1, k_24, e_icmp_ge, Option.toList_some, Option.toList_none, List.cons_append, List.nil_append, e_istore_2, e_iload_2, g_584_61, g_597_61, il_62, il_63, il_64, il_66, il_67, il_68, il_69, il_70, il_71, il_72, il_73, il_74, il_75, il_76, il_77, ik_62_0, ik_62_1, ik_62_2, ik_62_3, ik_62_4, ik_73_0, ik_74_0, k_m9, e_icmp_ne, e_goto, g_594_61, g_592_61, cc_M_findVolts_0, cc_M_findVolts_1, cc_M_findVolts_2, cc_M_findVolts_3, g_598_61, e_if_eq, g_595_61, g_600_61, e_lmul, g_599_61, g_596_61, e_lcmp, e_if_ge, k_1, p_599_61, p_600_61, p_601_61, p_602_61, e_iinc_2, e_iinc_1, e_ret, eq_self, le2424, not_true_eq_false, not_false_eq_true, if_true, if_false, true_or, or_true, false_or, or_false, true_and, and_true, false_and, and_false, and_self, or_self, reduceIte, Bool.false_eq_true, i10, i01]
theorem x_low {q : Nat → Nat → Int32} {ml : Nat → Nat → Int64} (hZ : rZ q n I nt c L off) (hT : LiT L nt) (hm : 0 < q_m c) : ∃ p r, ev E 157 (am_B 157 0) [.ref 61, am_dm, am_dm] [] (HH q ml) = some (none, HH p r) ∧ h1 p q ∧ k1 r ml ∧ p 61 22 = (if (d_low c (kL L off nt) nt 24).isSome = true then 1 else 0) ∧ d_in (d_low c (kL L off nt) nt 24) (r 61 23) (r 61 24) (p 61 25) (p 61 26) := by
  obtain ⟨p, r, e1, e2, e3, e4⟩ := x_lowS (E := E) (ml := ml) hZ hT hm
  exact ⟨p, r, e1, h1_h0 e2, k1_k3 e3, e4⟩
/-- safe, where the line L is not dark -/
def d_sf (L : Nat → Nat → Int32) (c : qC) (off : Nat → Nat) (nt : Nat) : Bool := match d_low c (kL L off nt) nt 24 with
  | none => true
  | some e => decide (qI (L 2 4).toInt ≤ e.1)
theorem x_safe {q : Nat → Nat → Int32} {ml : Nat → Nat → Int64} (hZ : rZ q n I nt c L off) (hT : LiT L nt) (hm : 0 < q_m c) (hR : LiR L) (h4 : q 62 4 = L 2 4) : ∃ p r, ev E 159 (am_B 159 0) [.ref 61] [] (HH q ml) = some (some (.int (if d_sf L c off nt = true then 1 else 0)), HH p r) ∧ h1 p q ∧ k1 r ml := by
  obtain ⟨p, r, w1, w2, w3, w4, w5⟩ := x_low (E := E) (ml := ml) hZ hT hm
  have cc1 : ∀ {M_ : Nat} {c_ : List Instr} {L_ : List Value}, ev E M_ (.invokevirtual 157 :: c_) L_ (.ref 61 :: []) (HH q ml) = ev E M_ c_ L_ [] (HH p r) := fun {M_} {c_} {L_} => e_inv (as := [.ref 61]) (S := []) rfl rfl (Nat.le_of_ble_eq_true rfl) (rfl) (w1)
  refine ⟨p, r, ?_, w2, w3⟩
  unfold d_sf
  cases hlo : d_low c (kL L off nt) nt 24 with
  | none =>
    rw [hlo] at w4
    simp only [b_159_e, b_159_31, b_159_35, b_159_36, e_aloadr_0, Option.toList_some, Option.toList_none, List.cons_append, List.nil_append, g_598_61, e_if_eq, g_599_61, g_578_61, k_4, il_62, il_63, il_64, il_66, il_67, il_68, il_69, il_70, il_71, il_72, il_73, il_74, il_75, il_76, il_77, ik_62_0, ik_62_1, ik_62_2, ik_62_3, ik_62_4, ik_73_0, ik_74_0, e_i2l, g_600_61, e_lmul, e_lcmp, e_if_lt, e_jsr, k_1, e_goto, k_0, e_zret0, e_zret1, eq_self, cc1, w4, Option.isSome_none, not_true_eq_false, not_false_eq_true, if_true, if_false, true_or, or_true, false_or, or_false, true_and, and_true, false_and, and_false, and_self, or_self, reduceIte, Bool.false_eq_true, i10, i01]
  | some e =>
    obtain ⟨v, et, en⟩ := e
    rw [hlo] at w4
    have hf := (w5 v et en hlo).1
    have e24 : p 62 4 = L 2 4 := by rw [← h4]; exact w2 62 4 (by decide) (by decide) (by decide) (by decide) (by decide) (by decide)
    have hge := fr2_ge (T := L 2 4) hf (Nat.le_refl _) (by have := hR.2.2.2.2.1; omega)
    by_cases h1 : qI (L 2 4).toInt ≤ v
    · have hlt : (r 61 23 < (L 2 4).toInt64 * r 61 24) = False := eq_false (by rw [Int64.not_lt, hge]; exact h1)
      simp only [b_159_e, b_159_31, b_159_35, b_159_36, e_aloadr_0, Option.toList_some, Option.toList_none, List.cons_append, List.nil_append, g_598_61, e_if_eq, g_599_61, g_578_61, k_4, il_62, il_63, il_64, il_66, il_67, il_68, il_69, il_70, il_71, il_72, il_73, il_74, il_75, il_76, il_77, ik_62_0, ik_62_1, ik_62_2, ik_62_3, ik_62_4, ik_73_0, ik_74_0, e_i2l, g_600_61, e_lmul, e_lcmp, e_if_lt, e_jsr, k_1, e_goto, k_0, e_zret0, e_zret1, eq_self, cc1, w4, Option.isSome_some, e24, lg_cmp_lt, hlt, h1, decide_true, not_true_eq_false, not_false_eq_true, if_true, if_false, true_or, or_true, false_or, or_false, true_and, and_true, false_and, and_false, and_self, or_self, reduceIte, Bool.false_eq_true, i10, i01]
    · have hlt : (r 61 23 < (L 2 4).toInt64 * r 61 24) = True := eq_true (by rw [← Int64.not_le, hge]; exact h1)
      simp only [b_159_e, b_159_31, b_159_35, b_159_36, e_aloadr_0, Option.toList_some, Option.toList_none, List.cons_append, List.nil_append, g_598_61, e_if_eq, g_599_61, g_578_61, k_4, il_62, il_63, il_64, il_66, il_67, il_68, il_69, il_70, il_71, il_72, il_73, il_74, il_75, il_76, il_77, ik_62_0, ik_62_1, ik_62_2, ik_62_3, ik_62_4, ik_73_0, ik_74_0, e_i2l, g_600_61, e_lmul, e_lcmp, e_if_lt, e_jsr, k_1, e_goto, k_0, e_zret0, e_zret1, eq_self, cc1, w4, Option.isSome_some, e24, lg_cmp_lt, hlt, h1, decide_false, not_true_eq_false, not_false_eq_true, if_true, if_false, true_or, or_true, false_or, or_false, true_and, and_true, false_and, and_false, and_self, or_self, reduceIte, Bool.false_eq_true, i10, i01]
end Rl
