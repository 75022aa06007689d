/-! best -/
section Bt
variable {E : aE} {q : Nat → Nat → Int32} {s : Nat → Nat → Int64} {n nt : Nat}
theorem INV_bs {p : Nat → Nat → Int32} {r : Nat → Nat → Int64} (hi : INV q s n nt) (hf : f4 p q) (hg : g4 r s) (h1 : p 26 8 = 1) (h2 : p 26 7 = oM ((d_best (LN q) n nt ((q 2 0).toInt.toNat + 1)).map (fun b => b.2))) (h3 : ∀ v x, d_best (LN q) n nt ((q 2 0).toInt.toNat + 1) = some (v, x) → fr2 (r 30 0) (r 30 1) v 1000000000000) : INV p r n nt := by
  obtain ⟨a1, a2, a3, a4, a5, a6⟩ := hi
  have h0 : sc0 n p q := fun a b z => hf a b (by omega) (by omega) (by omega) (by omega) (by omega) (by omega) (by omega) (by omega) (by omega)
  refine ⟨iA_sc h0 a1, iR_sc h0 a1.1.2.1.1 a2, iS_sc (fun a b z => hf a b (by omega) (by omega) (by omega) (by omega) (by omega) (by omega) (by omega) (by omega) (by omega)) a3, iT_sc (hf 0 4 (by decide) (by decide) (by decide) (by decide) (by decide) (by decide) (by decide) (by decide) (by decide)) (hf 0 5 (by decide) (by decide) (by decide) (by decide) (by decide) (by decide) (by decide) (by decide) (by decide)) (hf 61 1 (by decide) (by decide) (by decide) (by decide) (by decide) (by decide) (by decide) (by decide) (by decide)) (hf 61 0 (by decide) (by decide) (by decide) (by decide) (by decide) (by decide) (by decide) (by decide) (by decide)) a4, ⟨Or.inr h1, fun _ => ?_⟩, fun e he => ?_⟩
  · rw [LN_sc0 h0, h0 2 0 (by omega)]
    exact ⟨h2, h3⟩
  · exact iP_sc h0 (hf _ _ (by omega) (by omega) (by omega) (by omega) (by omega) (by omega) (by omega) (by omega) (by omega)) (fun b => hf _ _ (by omega) (by omega) (by omega) (by omega) (by omega) (by omega) (by omega) (by omega) (by omega)) (fun b => hg _ _ (by omega) (by omega) (by omega) (by omega) (by omega) (by omega) (by omega) (by omega) (by omega) (by omega)) he a6
theorem y_bs {F : Nat} (hF2 : F ≤ 200) (hF : q 2 0 = nI F) (hF3 : (q 2 0).toInt.toNat = F) (hn : n < 5) (hi : INV q s n nt) : ∃ p r, (∀ {c : List Instr} {L : List Value}, (q 26 8 = 1 ∧ p = q ∧ r = s) ∨ (¬ q 26 8 = 1 ∧ ev E 92 (.invokevirtual 93 :: c) L [.ref 26] (HH q s) = ev E 92 c L [] (HH p r))) ∧ INV p r n nt ∧ LN p = LN q ∧ p 2 0 = q 2 0 ∧ p 26 7 = oM ((d_best (LN q) n nt (F + 1)).map (fun b => b.2)) ∧ ∀ v x, d_best (LN q) n nt (F + 1) = some (v, x) → fr2 (r 30 0) (r 30 1) v 1000000000000 := by
  by_cases hk : q 26 8 = 1
  · obtain ⟨h1, h2⟩ := hi.2.2.2.2.1.2 hk
    rw [hF3] at h1 h2
    exact ⟨q, s, fun {c L} => Or.inl ⟨hk, rfl, rfl⟩, hi, rfl, rfl, h1, h2⟩
  · obtain ⟨p, r, e1, e2, e3, e4, e5, e6⟩ := y_best (E := E) (ml := s) hi.1.1 hn hF hF2
    have cc1 : ∀ {M_ : Nat} {c_ : List Instr} {L_ : List Value}, ev E M_ (.invokevirtual 93 :: c_) L_ (.ref 26 :: []) (HH q s) = ev E M_ c_ L_ [] (HH p r) := fun {M_} {c_} {L_} => e_inv (as := [.ref 26]) (S := []) rfl rfl (Nat.le_of_ble_eq_true rfl) (rfl) (e1)
    exact ⟨p, r, fun {c L} => Or.inr ⟨hk, cc1⟩, INV_bs hi e2 e3 e4 (by rw [hF3]; exact e5) (by rw [hF3]; exact e6), LN_f4 e2, e2 2 0 (by decide) (by decide) (by decide) (by decide) (by decide) (by decide) (by decide) (by decide) (by decide), e5, e6⟩
theorem busy_low {L : Nat → Nat → Int32} {off : Nat → Nat} {c : qC} (h : 0 < d_busy L off nt) : ∃ e, d_low c (kL L off nt) nt 24 = some e := by
  obtain ⟨t, h1, h2, _⟩ := cntB_at h
  obtain ⟨k, k1, k2⟩ := anyB_iff.mp h2
  have hs : (d_low c (kL L off nt) nt (t + 1)).isSome = true := d_lowT_some ⟨k, k1, by show q_th (q_sol c 46 _) k = true; rw [(q_sol_th c 46 _).1]; exact k2⟩
  cases hq : d_low c (kL L off nt) nt (t + 1) with
  | none => rw [hq] at hs; cases hs
  | some e =>
    obtain ⟨e', h3, _⟩ := d_low_le hq (24 - (t + 1))
    rw [show t + 1 + (24 - (t + 1)) = 24 by omega] at h3
    exact ⟨e', h3⟩
theorem idle_best {L : Nat → Nat → Int32} (h : d_busy L (kO L) nt = 0) : ∀ x, d_best L n nt x = none := by
  have hno : ∀ t, t < 24 → ∀ k, k < nt → q_th (kL L (kO L) nt t) k = false := by
    intro t ht k hk
    cases hq : q_th (kL L (kO L) nt t) k with
    | false => rfl
    | true =>
      have := cntB_pos (f := fun t => anyB (q_th (kL L (kO L) nt t)) nt) ht (anyB_iff.mpr ⟨k, hk, hq⟩)
      unfold d_busy at h
      omega
  have hlow : ∀ (c : qC) t, t ≤ 24 → d_low c (kL L (kO L) nt) nt t = none := by
    intro c t
    induction t with
    | zero => intro _; rfl
    | succ t ih =>
      intro ht
      rw [d_low, ih (by omega)]
      exact d_lowT_none (fun k hk => by show q_th (q_sol c 46 _) k = false; rw [(q_sol_th c 46 _).1]; exact hno t (by omega) k hk)
  intro x
  induction x with
  | zero => rfl
  | succ x ih =>
    rw [d_best, hlow _ 24 (Nat.le_refl _), ih]
    split <;> rfl
/-- the reference with one more station -/
theorem rZ_X {p : Nat → Nat → Int32} {L : Nat → Nat → Int32} {x : Int32} (hS : LiS (LX L n x) (n + 1)) (hR : LiR L) (hn : n < 5) (h62 : ∀ b, b < 5 → p 62 b = L 2 b) (h64 : ∀ k, k < n → p 64 k = sP L k) (h65 : ∀ k, k < n → (p 65 k = 0 ↔ sI L k = true)) (hW : rW p nt L (kO L)) : ∃ I, rZ (am_up (am_up (am_up p 64 n x) 65 n 0) 61 3 (nI (n + 1))) (n + 1) I nt (kC (LX L n x) (-9) (n + 1)) L (kO L) := by
  have hne : ∀ a b, ¬ (a = 61 ∧ b = 3) → ¬ (a = 64 ∧ b = n) → ¬ (a = 65 ∧ b = n) → am_up (am_up (am_up p 64 n x) 65 n 0) 61 3 (nI (n + 1)) a b = p a b := fun a b h1 h2 h3 => by rw [am_upa, if_neg h1, am_upa, if_neg h3, am_upa, if_neg h2]
  obtain ⟨I, hI⟩ := kC_rS (q := am_up (am_up (am_up p 64 n x) 65 n 0) 61 3 (nI (n + 1))) (w := -9) hS am_up_self (fun k hk => by
    by_cases e : k = n
    · subst e
      rw [am_upa, if_neg (by omega), am_upa, if_neg (by omega), am_up_self, LX_P]
    · rw [hne 64 k (by omega) (by omega) (by omega), (LX_s (by omega)).1]; exact h64 k (by omega)) (fun k hk => by
    rw [tkS_in (by omega)]
    by_cases e : k = n
    · subst e
      rw [am_upa, if_neg (by omega), am_up_self, LX_I]
      simp
    · rw [hne 65 k (by omega) (by omega) (by omega), (LX_s (by omega)).2]; exact h65 k (by omega))
  obtain ⟨w1, w2, w3, w4⟩ := hW
  refine ⟨I, hI, kC_rR (LX_R hR) (fun b hb => by rw [hne 62 b (by omega) (by omega) (by omega), LX_ne (by omega)]; exact h62 b hb), by rw [hne 61 8 (by omega) (by omega) (by omega)]; exact w1, fun k hk => by rw [hne 69 k (by omega) (by omega) (by omega)]; exact w2 k hk, fun k hk t ht => by rw [hne 67 _ (by omega) (by omega) (by omega), hne 68 _ (by omega) (by omega) (by omega)]; exact w3 k hk t ht, fun j hj => by rw [hne 67 j (by omega) (by omega) (by omega)]; exact w4 j hj⟩
/-- cells that the reference's best changes -/
def h2 (n : Nat) (p q : Nat → Nat → Int32) : Prop := ∀ a b, ¬ (a = 61 ∧ (b = 15 ∨ b = 18 ∨ b = 22 ∨ b = 25 ∨ b = 26 ∨ b = 33)) → ¬ (a = 64 ∧ b = n) → ¬ (a = 65 ∧ b = n) → ¬ a = 73 → ¬ a = 74 → ¬ a = 75 → ¬ a = 76 → ¬ a = 77 → p a b = q a b
theorem sc_h2 {p : Nat → Nat → Int32} (h : h2 n p q) : sc n p q := fun a b z => h a b (by omega) (by omega) (by omega) (by omega) (by omega) (by omega) (by omega) (by omega)
theorem x_best {F : Nat} (hi : INV q s n nt) (hn : n < 5) (hF : q 2 0 = nI F) (hF2 : F ≤ 200) (hb : 0 < d_busy (LN q) (kO (LN q)) nt) {v1 : Value} : ∃ p r, ev E 171 (am_B 171 (Int.toNat 41)) [.ref 61, v1, .int (nI n), .int (nI 0)] [] (HH (am_up q 61 33 (-9)) s) = ev E 171 (am_B 171 (Int.toNat 158)) [.ref 61, v1, .int (nI n), .int (nI (F + 1))] [] (HH p r) ∧ h2 n p q ∧ k1 r s ∧ p 61 33 = oM ((d_best (LN q) n nt (F + 1)).map (fun b => b.2)) ∧ ∀ v x, d_best (LN q) n nt (F + 1) = some (v, x) → fr2 (r 61 34) (r 61 35) v 1000000000000 := by
  have hl := hi.1.1
  obtain ⟨s', hlp, hJ⟩ := loop_inv (fun i (x : (Nat → Nat → Int32) × (Nat → Nat → Int64)) => ev E 171 (am_B 171 (Int.toNat 41)) [.ref 61, v1, .int (nI n), .int (nI i)] [] (HH x.1 x.2)) (fun i x => h2 n x.1 q ∧ k1 x.2 s ∧ x.1 61 33 = oM ((d_best (LN q) n nt i).map (fun b => b.2)) ∧ (∀ v y, d_best (LN q) n nt i = some (v, y) → fr2 (x.2 61 34) (x.2 61 35) v 1000000000000 ∧ y < 1000)) (F + 1) (fun i x hi2 hj => by
    obtain ⟨p, r⟩ := x
    obtain ⟨j1, j2, j3, j4⟩ := hj
    dsimp only at j1 j2 j3 j4 ⊢
    have hip : INV p r n nt := INV_of hi (sc_h2 j1) (sl_k1 j2)
    have hLN : LN p = LN q := LN_sc (sc_h2 j1)
    obtain ⟨⟨m1, m2⟩, ⟨m3, m4⟩, ⟨m5, m6⟩, m7⟩ := lay_b hip
    obtain ⟨b1, b2, b3, b4⟩ := hip.2.1
    have e20 : p 62 0 = nI F := by
      rw [m7 0 (by decide)]
      have h1 : LN p 2 0 = p 2 0 := LN_2
      have h2 : LN q 2 0 = q 2 0 := LN_2
      rw [← h1, hLN, h2]; exact hF
    have hgt : (nI F < nI i) = False := eq_false (fun z => by have := (nI_ltI (by omega) (by omega)).mp z; omega)
    have e64 : ∀ k, k < n → p 64 k = sP (LN q) k := fun k hk => by rw [(b3 k hk).2.1, ← hLN, LN_sP (by omega)]; rfl
    have hta0 : anyB (fun k => decide (p 64 k = nI i)) n = anyB (fun k => decide (sP (LN q) k = nI i)) n := by
      rw [Bool.eq_iff_iff, anyB_iff, anyB_iff]
      constructor
      · rintro ⟨k, h1, h2⟩; exact ⟨k, h1, by rw [← e64 k h1]; exact h2⟩
      · rintro ⟨k, h1, h2⟩; exact ⟨k, h1, by rw [e64 k h1]; exact h2⟩
    rw [d_best]
    by_cases hta : anyB (fun k => decide (sP (LN q) k = nI i)) n = true
    · rw [if_pos hta]
      refine ⟨(p, r), hd b_171_41 ?_, j1, j2, j3, j4⟩
      simp only [b_171_e, b_171_24, b_171_28, b_171_62, b_171_131, b_171_152, b_171_158, b_171_171, b_171_199, b_171_206, e_iload_1, k_0, k_2, cc_M_within_0, cc_M_within_1, cc_M_within_2, cc_M_within_3, Option.toList_some, Option.toList_none, List.cons_append, List.nil_append, e_if_eq, e_aloadr_0, g_579_61, k_5, e_icmp_eq, e_if_ne, e_jsr, kl_m9223372036854775808, e_lret, k_m9, p_609_61, e_istore_2, e_kpi, e_kpr, e_kpl, e_kpd, e_istore_3, e_iload_3, g_578_61, il_62, il_63, il_64, il_66, il_67, il_68, il_69, il_70, il_71, il_72, il_73, il_74, il_75, il_76, il_77, ik_62_0, ik_62_1, ik_62_2, ik_62_3, ik_62_4, ik_73_0, ik_74_0, e_icmp_gt, cc_M_isTaken_0, cc_M_isTaken_1, cc_M_isTaken_2, cc_M_isTaken_3, e_goto, g_581_61, e_iload_2, is_62, is_63, is_64, is_66, is_67, is_68, is_69, is_70, is_71, is_72, is_73, is_74, is_75, is_76, is_77, iks_73_0, iks_74_0, g_582_61, is_65, e_dupr, e_dupi, k_1, e_iadd, p_579_61, e_isub, g_609_61, g_599_61, g_611_61, e_lmul, g_610_61, g_600_61, e_lcmp, e_if_le, p_610_61, p_611_61, e_iinc_3, e_icmp_ne, p_595_61, p_596_61, e_i2l, cc_M_part_0, cc_M_part_1, cc_M_part_2, cc_M_part_3, eq_self, e20, hgt, cc_M_isTaken_0 m5 m2, hta0, hta, not_true_eq_false, not_false_eq_true, if_true, if_false, true_or, or_true, false_or, or_false, true_and, and_true, false_and, and_false, and_self, or_self, reduceIte, Bool.false_eq_true, i10, i01, e_inc1]
    · rw [if_neg hta]
      have hbi : bd (nI i) := by unfold bd; rw [nI_toInt (by omega)]; omega
      have hS := LX_S hl.2.1 hn hbi (fun k hk z => hta (anyB_iff.mpr ⟨k, hk, by simpa using z⟩))
      obtain ⟨I, hZ⟩ := rZ_X (p := p) (nt := nt) (L := LN q) hS hl.2.2.1 hn (fun b hb2 => by rw [m7 b hb2, ← hLN, LN_2]) e64 (fun k hk => by
        rw [(b3 k hk).2.2.1, ← hLN, LN_sI (by omega)]
        unfold sI
        by_cases h : p (6 + k) 2 = 0
        · simp [h]
        · simp [h]) (by rw [← hLN]; exact b4)
      have hm : 0 < q_m (kC (LX (LN q) n (nI i)) (-9) (n + 1)) := by
        show 0 < cntB (tkS (LX (LN q) n (nI i)) (-9)) (n + 1)
        exact cntB_pos (show n < n + 1 by omega) (by rw [tkS_in hn]; exact LX_I)
      obtain ⟨p2, r2, w1, w2, w3, w4, w5⟩ := x_lowS (E := E) (ml := r) hZ hl.2.2.2.1 hm
      have hsu : nI n + 1 = nI (n + 1) := nI_1 n
      have cc1 : ∀ {M_ : Nat} {c_ : List Instr} {L_ : List Value}, ev E M_ (.invokevirtual 157 :: c_) L_ (.ref 61 :: []) (HH (am_up (am_up (am_up p 64 n (nI i)) 65 n 0) 61 3 (nI (n + 1))) r) = ev E M_ c_ L_ [] (HH p2 r2) := fun {M_} {c_} {L_} => e_inv (as := [.ref 61]) (S := []) rfl rfl (Nat.le_of_ble_eq_true rfl) (rfl) (w1)
      obtain ⟨e, hlo⟩ := busy_low (c := kC (LX (LN q) n (nI i)) (-9) (n + 1)) hb
      rw [hlo]
      obtain ⟨v, et, en⟩ := e
      obtain ⟨z1, z2, z3⟩ := w5 v et en hlo
      have e3 : am_up (am_up p 64 n (nI i)) 65 n 0 61 3 = nI n := by rw [am_upa, if_neg (by omega), am_upa, if_neg (by omega)]; exact m5
      have e3b : p2 61 3 = nI (n + 1) := by rw [w2 61 3 (by decide) (by decide) (by decide) (by decide), am_up_self]
      have e3c : nI (n + 1) - 1 = nI n := nI_pred n
      have e33 : am_up p2 61 3 (nI n) 61 33 = oM ((d_best (LN q) n nt i).map (fun b => b.2)) := by
        rw [am_upa, if_neg (by decide), w2 61 33 (by decide) (by decide) (by decide) (by decide), am_upa, if_neg (by decide), am_upa, if_neg (by omega), am_upa, if_neg (by omega)]
        exact j3
      have hn6 : n < 6 := by omega
      have hfr : h2 n (am_up p2 61 3 (nI n)) q := fun a b x1 x2 x3 x4 x5 x6 x7 x8 => by
        rw [am_upa]
        by_cases e : a = 61 ∧ b = 3
        · rw [if_pos e, e.1, e.2, ← j1 61 3 (by decide) (by omega) (by omega) (by decide) (by decide) (by decide) (by decide) (by decide)]
          exact m5.symm
        · rw [if_neg e, w2 a b (by omega) x4 x5 x6, am_upa, if_neg e, am_upa, if_neg x3, am_upa, if_neg x2]
          exact j1 a b x1 x2 x3 x4 x5 x6 x7 x8
      have kr2 : k1 r2 s := k1_tr (k1_k3 w3) j2
      have er : ∀ b, b = 34 ∨ b = 35 → r2 61 b = r 61 b := fun b z => w3 61 b (by omega)
      have hsetf : h2 n (am_up (am_up p2 61 3 (nI n)) 61 33 (nI i)) q := fun a b x1 x2 x3 x4 x5 x6 x7 x8 => by
        rw [am_upa, if_neg (by omega)]
        exact hfr a b x1 x2 x3 x4 x5 x6 x7 x8
      have hsetk : k1 (am_up (am_up r2 61 34 (r2 61 23)) 61 35 (r2 61 24)) s := fun a b x => by rw [am_upa, if_neg (fun z => x z.1), am_upa, if_neg (fun z => x z.1)]; exact kr2 a b x
      have e34 : am_up r2 61 34 (r2 61 23) 61 24 = r2 61 24 := by rw [am_upa, if_neg (by decide)]
      have hset34 : fr2 (am_up (am_up r2 61 34 (r2 61 23)) 61 35 (r2 61 24) 61 34) (am_up (am_up r2 61 34 (r2 61 23)) 61 35 (r2 61 24) 61 35) v 1000000000000 := by rw [am_upa, if_neg (by decide), am_up_self, am_up_self]; exact z1
      cases hq : d_best (LN q) n nt i with
      | none =>
        rw [hq] at e33
        refine ⟨(am_up (am_up p2 61 3 (nI n)) 61 33 (nI i), am_up (am_up r2 61 34 (r2 61 23)) 61 35 (r2 61 24)), hd b_171_41 ?_, hsetf, hsetk, by dsimp only; rw [am_up_self]; rfl, fun v' y h => ?_⟩
        · simp only [b_171_e, b_171_24, b_171_28, b_171_62, b_171_131, b_171_152, b_171_158, b_171_171, b_171_199, b_171_206, e_iload_1, k_0, k_2, cc_M_within_0, cc_M_within_1, cc_M_within_2, cc_M_within_3, Option.toList_some, Option.toList_none, List.cons_append, List.nil_append, e_if_eq, e_aloadr_0, g_579_61, k_5, e_icmp_eq, e_if_ne, e_jsr, kl_m9223372036854775808, e_lret, k_m9, p_609_61, e_istore_2, e_kpi, e_kpr, e_kpl, e_kpd, e_istore_3, e_iload_3, g_578_61, il_62, il_63, il_64, il_66, il_67, il_68, il_69, il_70, il_71, il_72, il_73, il_74, il_75, il_76, il_77, ik_62_0, ik_62_1, ik_62_2, ik_62_3, ik_62_4, ik_73_0, ik_74_0, e_icmp_gt, cc_M_isTaken_0, cc_M_isTaken_1, cc_M_isTaken_2, cc_M_isTaken_3, e_goto, g_581_61, e_iload_2, is_62, is_63, is_64, is_66, is_67, is_68, is_69, is_70, is_71, is_72, is_73, is_74, is_75, is_76, is_77, iks_73_0, iks_74_0, g_582_61, is_65, e_dupr, e_dupi, k_1, e_iadd, p_579_61, e_isub, g_609_61, g_599_61, g_611_61, e_lmul, g_610_61, g_600_61, e_lcmp, e_if_le, p_610_61, p_611_61, e_iinc_3, e_icmp_ne, p_595_61, p_596_61, e_i2l, cc_M_part_0, cc_M_part_1, cc_M_part_2, cc_M_part_3, eq_self, e20, hgt, cc_M_isTaken_0 m5 m2, hta0, hta, hn6, hn, true_or, e3, hsu, cc1, e3b, e3c, e33, Option.map, oM_n, n9n9, e34, not_true_eq_false, not_false_eq_true, if_true, if_false, true_or, or_true, false_or, or_false, true_and, and_true, false_and, and_false, and_self, or_self, reduceIte, Bool.false_eq_true, i10, i01, e_inc1]
        · cases h; exact ⟨hset34, by omega⟩
      | some bb =>
        obtain ⟨bv, bx⟩ := bb
        rw [hq] at e33
        obtain ⟨y1, y2⟩ := j4 bv bx hq
        have hcmp := fr2_lt y1 z1 (Nat.le_refl _)
        rw [← er 34 (by simp), ← er 35 (by simp)] at hcmp
        by_cases hlt : bv < v
        · refine ⟨(am_up (am_up p2 61 3 (nI n)) 61 33 (nI i), am_up (am_up r2 61 34 (r2 61 23)) 61 35 (r2 61 24)), hd b_171_41 ?_, hsetf, hsetk, ?_, fun v' y h => ?_⟩
          · simp only [b_171_e, b_171_24, b_171_28, b_171_62, b_171_131, b_171_152, b_171_158, b_171_171, b_171_199, b_171_206, e_iload_1, k_0, k_2, cc_M_within_0, cc_M_within_1, cc_M_within_2, cc_M_within_3, Option.toList_some, Option.toList_none, List.cons_append, List.nil_append, e_if_eq, e_aloadr_0, g_579_61, k_5, e_icmp_eq, e_if_ne, e_jsr, kl_m9223372036854775808, e_lret, k_m9, p_609_61, e_istore_2, e_kpi, e_kpr, e_kpl, e_kpd, e_istore_3, e_iload_3, g_578_61, il_62, il_63, il_64, il_66, il_67, il_68, il_69, il_70, il_71, il_72, il_73, il_74, il_75, il_76, il_77, ik_62_0, ik_62_1, ik_62_2, ik_62_3, ik_62_4, ik_73_0, ik_74_0, e_icmp_gt, cc_M_isTaken_0, cc_M_isTaken_1, cc_M_isTaken_2, cc_M_isTaken_3, e_goto, g_581_61, e_iload_2, is_62, is_63, is_64, is_66, is_67, is_68, is_69, is_70, is_71, is_72, is_73, is_74, is_75, is_76, is_77, iks_73_0, iks_74_0, g_582_61, is_65, e_dupr, e_dupi, k_1, e_iadd, p_579_61, e_isub, g_609_61, g_599_61, g_611_61, e_lmul, g_610_61, g_600_61, e_lcmp, e_if_le, p_610_61, p_611_61, e_iinc_3, e_icmp_ne, p_595_61, p_596_61, e_i2l, cc_M_part_0, cc_M_part_1, cc_M_part_2, cc_M_part_3, eq_self, e20, hgt, cc_M_isTaken_0 m5 m2, hta0, hta, hn6, hn, true_or, e3, hsu, cc1, e3b, e3c, e33, Option.map, oM_s, eq_n9 y2, lg_cmp_le, nle64, hcmp, hlt, e34, not_true_eq_false, not_false_eq_true, if_true, if_false, true_or, or_true, false_or, or_false, true_and, and_true, false_and, and_false, and_self, or_self, reduceIte, Bool.false_eq_true, i10, i01, e_inc1]
          · dsimp only; rw [am_up_self, if_pos hlt]; rfl
          · dsimp only at h
            rw [if_pos hlt] at h
            cases h; exact ⟨hset34, by omega⟩
        · refine ⟨(am_up p2 61 3 (nI n), r2), hd b_171_41 ?_, hfr, kr2, ?_, fun v' y h => ?_⟩
          · simp only [b_171_e, b_171_24, b_171_28, b_171_62, b_171_131, b_171_152, b_171_158, b_171_171, b_171_199, b_171_206, e_iload_1, k_0, k_2, cc_M_within_0, cc_M_within_1, cc_M_within_2, cc_M_within_3, Option.toList_some, Option.toList_none, List.cons_append, List.nil_append, e_if_eq, e_aloadr_0, g_579_61, k_5, e_icmp_eq, e_if_ne, e_jsr, kl_m9223372036854775808, e_lret, k_m9, p_609_61, e_istore_2, e_kpi, e_kpr, e_kpl, e_kpd, e_istore_3, e_iload_3, g_578_61, il_62, il_63, il_64, il_66, il_67, il_68, il_69, il_70, il_71, il_72, il_73, il_74, il_75, il_76, il_77, ik_62_0, ik_62_1, ik_62_2, ik_62_3, ik_62_4, ik_73_0, ik_74_0, e_icmp_gt, cc_M_isTaken_0, cc_M_isTaken_1, cc_M_isTaken_2, cc_M_isTaken_3, e_goto, g_581_61, e_iload_2, is_62, is_63, is_64, is_66, is_67, is_68, is_69, is_70, is_71, is_72, is_73, is_74, is_75, is_76, is_77, iks_73_0, iks_74_0, g_582_61, is_65, e_dupr, e_dupi, k_1, e_iadd, p_579_61, e_isub, g_609_61, g_599_61, g_611_61, e_lmul, g_610_61, g_600_61, e_lcmp, e_if_le, p_610_61, p_611_61, e_iinc_3, e_icmp_ne, p_595_61, p_596_61, e_i2l, cc_M_part_0, cc_M_part_1, cc_M_part_2, cc_M_part_3, eq_self, e20, hgt, cc_M_isTaken_0 m5 m2, hta0, hta, hn6, hn, true_or, e3, hsu, cc1, e3b, e3c, e33, Option.map, oM_s, eq_n9 y2, lg_cmp_le, nle64, hcmp, hlt, not_true_eq_false, not_false_eq_true, if_true, if_false, true_or, or_true, false_or, or_false, true_and, and_true, false_and, and_false, and_self, or_self, reduceIte, Bool.false_eq_true, i10, i01, e_inc1]
          · dsimp only; rw [e33, if_neg hlt]
          · dsimp only at h ⊢
            rw [if_neg hlt] at h
            cases h
            rw [er 34 (by simp), er 35 (by simp)]
            exact ⟨y1, y2⟩) (am_up q 61 33 (-9), s) ⟨fun a b x1 x2 x3 x4 x5 x6 x7 x8 => by dsimp only; rw [am_upa, if_neg (by omega)], k1_rf, by dsimp only; rw [am_up_self]; rfl, fun v x h => by cases h⟩
  obtain ⟨p, r⟩ := s'
  obtain ⟨j1, j2, j3, j4⟩ := hJ
  dsimp only at hlp j1 j2 j3 j4
  have hip : INV p r n nt := INV_of hi (sc_h2 j1) (sl_k1 j2)
  have hLN : LN p = LN q := LN_sc (sc_h2 j1)
  have e20 : p 62 0 = nI F := by
    rw [(lay_b hip).2.2.2 0 (by decide)]
    have h1 : LN p 2 0 = p 2 0 := LN_2
    have h2 : LN q 2 0 = q 2 0 := LN_2
    rw [← h1, hLN, h2]; exact hF
  have hgt : (nI F < nI (F + 1)) = True := eq_true ((nI_ltI (by omega) (by omega)).mpr (by omega))
  refine ⟨p, r, Eq.trans hlp (hd b_171_41 ?_), j1, j2, j3, fun v x h => (j4 v x h).1⟩
  simp only [b_171_e, b_171_24, b_171_28, b_171_62, b_171_131, b_171_152, b_171_158, b_171_171, b_171_199, b_171_206, e_iload_1, k_0, k_2, cc_M_within_0, cc_M_within_1, cc_M_within_2, cc_M_within_3, Option.toList_some, Option.toList_none, List.cons_append, List.nil_append, e_if_eq, e_aloadr_0, g_579_61, k_5, e_icmp_eq, e_if_ne, e_jsr, kl_m9223372036854775808, e_lret, k_m9, p_609_61, e_istore_2, e_kpi, e_kpr, e_kpl, e_kpd, e_istore_3, e_iload_3, g_578_61, il_62, il_63, il_64, il_66, il_67, il_68, il_69, il_70, il_71, il_72, il_73, il_74, il_75, il_76, il_77, ik_62_0, ik_62_1, ik_62_2, ik_62_3, ik_62_4, ik_73_0, ik_74_0, e_icmp_gt, cc_M_isTaken_0, cc_M_isTaken_1, cc_M_isTaken_2, cc_M_isTaken_3, e_goto, g_581_61, e_iload_2, is_62, is_63, is_64, is_66, is_67, is_68, is_69, is_70, is_71, is_72, is_73, is_74, is_75, is_76, is_77, iks_73_0, iks_74_0, g_582_61, is_65, e_dupr, e_dupi, k_1, e_iadd, p_579_61, e_isub, g_609_61, g_599_61, g_611_61, e_lmul, g_610_61, g_600_61, e_lcmp, e_if_le, p_610_61, p_611_61, e_iinc_3, e_icmp_ne, p_595_61, p_596_61, e_i2l, cc_M_part_0, cc_M_part_1, cc_M_part_2, cc_M_part_3, eq_self, e20, hgt, not_true_eq_false, not_false_eq_true, if_true, if_false, true_or, or_true, false_or, or_false, true_and, and_true, false_and, and_false, and_self, or_self, reduceIte, Bool.false_eq_true, i10, i01]
theorem best_lt {L : Nat → Nat → Int32} : ∀ {x : Nat} {v : Rat} {y : Nat}, d_best L n nt x = some (v, y) → y < x := by
  intro x
  induction x with
  | zero => intro v y h; cases h
  | succ x ih =>
    intro v y h
    rw [d_best] at h
    split at h
    · have := ih h; omega
    · split at h
      · have := ih h; omega
      · split at h
        · cases h; omega
        · rename_i b hb
          split at h
          · cases h; omega
          · rw [h] at hb; have := ih hb; omega
theorem o_best (hi : INV q s n nt) (w : Int32) : OPl E 92 171 [.ref 0, .int w] [.ref 61, .int w, am_dm, am_dm] q s := by
  obtain ⟨⟨l1, l2⟩, ⟨l3, l4⟩, ⟨l5, l6⟩, l7⟩ := lay_b hi
  obtain ⟨F, hF1, hF2, hF3⟩ := LONG_n hi
  by_cases hw : 0 ≤ w ∧ w ≤ 2
  · have hw1 : (w < 0) = False := eq_false (Int32.not_lt.mpr hw.1)
    have hw2 : (2 < w) = False := eq_false (Int32.not_lt.mpr hw.2)
    by_cases hn : n < 5
    · have hlt : (nI n < 5) = True := eq_true ((nI_ltI (b := 5) (by omega) (by decide)).mpr hn)
      have hne5 : (nI n = 5) = False := eq_false (fun z => by have := (nI_eq (b := 5) (by omega) (by decide)).mp z; omega)
      obtain ⟨p, r, hc, hip, hLN, hp2, h7, hfr⟩ := y_bs (E := E) hF1 hF2 hF3 hn hi
      obtain ⟨⟨m1, m2⟩, ⟨m3, m4⟩, ⟨m5, m6⟩, m7⟩ := lay_b hip
      obtain ⟨b1, b2, b3, b4⟩ := hip.2.1
      have hcl : ∀ X : Option aR, ev E 92 (am_B 92 (Int.toNat 41)) [.ref 0, .int w] [] (HH p r) = X → ev E 92 (am_B 92 0) [.ref 0, .int w] [] (HH q s) = X := by
        intro X hX
        rw [← hX]
        rcases hc (c := [.jsr 41]) (L := [.ref 0, .int w]) with ⟨z1, z2, z3⟩ | ⟨z1, z2⟩
        · subst z2; subst z3
          have hne : ¬ p 26 8 = 0 := by rw [z1]; decide
          simp only [b_92_e, b_92_20, b_92_24, b_92_41, b_92_57, b_92_72, b_92_85, e_iload_1, e_if_lt, k_2, e_icmp_gt, e_aloadr_0, g_512_0, g_132_1, k_5, e_icmp_lt, e_jsr, kl_m9223372036854775808, e_lret, g_513_0, g_72_26, e_if_ne, Option.toList_some, Option.toList_none, List.cons_append, List.nil_append, g_71_26, k_m9, e_icmp_ne, e_i2l, e_goto, g_70_26, k_1, e_isub, cc_Share_told_0, cc_Share_told_1, cc_Share_told_2, cc_Share_told_3, lay_27, lay_28, lay_30, lay_31, lay_32, lay_43, lay_44, lay_46, lay_49, lay_60, eq_self, hw1, hw2, l1, hlt, hne, not_true_eq_false, not_false_eq_true, if_true, if_false, true_or, or_true, false_or, or_false, true_and, and_true, false_and, and_false, and_self, or_self, reduceIte, Bool.false_eq_true, i10, i01]
        · have hz : q 26 8 = 0 := by rcases hi.2.2.2.2.1.1 with y | y; exact y; exact absurd y z1
          simp only [b_92_e, b_92_20, b_92_24, b_92_41, b_92_57, b_92_72, b_92_85, e_iload_1, e_if_lt, k_2, e_icmp_gt, e_aloadr_0, g_512_0, g_132_1, k_5, e_icmp_lt, e_jsr, kl_m9223372036854775808, e_lret, g_513_0, g_72_26, e_if_ne, Option.toList_some, Option.toList_none, List.cons_append, List.nil_append, g_71_26, k_m9, e_icmp_ne, e_i2l, e_goto, g_70_26, k_1, e_isub, cc_Share_told_0, cc_Share_told_1, cc_Share_told_2, cc_Share_told_3, lay_27, lay_28, lay_30, lay_31, lay_32, lay_43, lay_44, lay_46, lay_49, lay_60, eq_self, hw1, hw2, l1, hlt, hz, z2, not_true_eq_false, not_false_eq_true, if_true, if_false, true_or, or_true, false_or, or_false, true_and, and_true, false_and, and_false, and_self, or_self, reduceIte, Bool.false_eq_true, i10, i01]
      obtain ⟨pb, t1, t2⟩ := x_busy (E := E) (ml := r) (q := p) (L := LN q) (off := kO (LN q)) (by rw [← hLN]; exact b4) hi.1.1.2.2.2.1
      have cct : ∀ {M_ : Nat} {c_ : List Instr} {L_ : List Value}, ev E M_ (.invokevirtual 173 :: c_) L_ (.ref 61 :: []) (HH p r) = ev E M_ c_ L_ (.int (nI (d_busy (LN q) (kO (LN q)) nt)) :: []) (HH pb r) := fun {M_} {c_} {L_} => e_inv (as := [.ref 61]) (S := []) rfl rfl (Nat.le_of_ble_eq_true rfl) (rfl) (t1)
      have hib : INV pb r n nt := INV_of hip (sc_h1 (h1_fq t2)) (fun _ _ _ => rfl)
      have hbb : d_busy (LN q) (kO (LN q)) nt ≤ 24 := cntB_le
      by_cases hb : 0 < d_busy (LN q) (kO (LN q)) nt
      · have hat : ev E 172 (am_B 172 0) [.ref 61] [] (HH p r) = some (some (.int 1), HH pb r) := by
          have : (nI (d_busy (LN q) (kO (LN q)) nt) ≤ 0) = False := eq_false (nI_nle hb (by omega))
          simp only [b_172_e, b_172_11, b_172_12, e_aloadr_0, Option.toList_some, Option.toList_none, List.cons_append, List.nil_append, e_if_le, k_1, e_goto, k_0, e_jsr, e_zret0, e_zret1, eq_self, cct, this, not_true_eq_false, not_false_eq_true, if_true, if_false, true_or, or_true, false_or, or_false, true_and, and_true, false_and, and_false, and_self, or_self, reduceIte, Bool.false_eq_true, i10, i01]
        have cca : ∀ {M_ : Nat} {c_ : List Instr} {L_ : List Value}, ev E M_ (.invokevirtual 172 :: c_) L_ (.ref 61 :: []) (HH p r) = ev E M_ c_ L_ (.int 1 :: []) (HH pb r) := fun {M_} {c_} {L_} => e_inv (as := [.ref 61]) (S := []) rfl rfl (Nat.le_of_ble_eq_true rfl) (rfl) (hat)
        have hLNb : LN pb = LN q := by rw [LN_sc (n := n) (sc_h1 (h1_fq t2)), hLN]
        have hpb2 : pb 2 0 = nI F := by
          have h1 : LN pb 2 0 = pb 2 0 := LN_2
          have h2 : LN q 2 0 = q 2 0 := LN_2
          rw [← h1, hLNb, h2]; exact hF2
        obtain ⟨p2, r2, x1, x2, x3, x4, x5⟩ := x_best (E := E) (v1 := .int w) hib hn hpb2 hF1 (by rw [hLNb]; exact hb)
        rw [hLNb] at x4 x5
        have hm5b : pb 61 3 = nI n := (lay_b hib).2.2.1.1
        have e3x : am_up pb 61 33 (-9) 61 3 = nI n := by rw [am_upa, if_neg (by decide)]; exact hm5b
        have hpre : ev E 171 (am_B 171 0) [.ref 61, .int w, am_dm, am_dm] [] (HH p r) = ev E 171 (am_B 171 (Int.toNat 158)) [.ref 61, .int w, .int (nI n), .int (nI (F + 1))] [] (HH p2 r2) := by
          rw [← x1]
          simp only [b_171_e, b_171_24, b_171_28, b_171_62, b_171_131, b_171_152, b_171_158, b_171_171, b_171_199, b_171_206, e_iload_1, k_0, k_2, cc_M_within_0, cc_M_within_1, cc_M_within_2, cc_M_within_3, Option.toList_some, Option.toList_none, List.cons_append, List.nil_append, e_if_eq, e_aloadr_0, g_579_61, k_5, e_icmp_eq, e_if_ne, e_jsr, kl_m9223372036854775808, e_lret, k_m9, p_609_61, e_istore_2, e_kpi, e_kpr, e_kpl, e_kpd, e_istore_3, e_iload_3, g_578_61, il_62, il_63, il_64, il_66, il_67, il_68, il_69, il_70, il_71, il_72, il_73, il_74, il_75, il_76, il_77, ik_62_0, ik_62_1, ik_62_2, ik_62_3, ik_62_4, ik_73_0, ik_74_0, e_icmp_gt, cc_M_isTaken_0, cc_M_isTaken_1, cc_M_isTaken_2, cc_M_isTaken_3, e_goto, g_581_61, e_iload_2, is_62, is_63, is_64, is_66, is_67, is_68, is_69, is_70, is_71, is_72, is_73, is_74, is_75, is_76, is_77, iks_73_0, iks_74_0, g_582_61, is_65, e_dupr, e_dupi, k_1, e_iadd, p_579_61, e_isub, g_609_61, g_599_61, g_611_61, e_lmul, g_610_61, g_600_61, e_lcmp, e_if_le, p_610_61, p_611_61, e_iinc_3, e_icmp_ne, p_595_61, p_596_61, e_i2l, cc_M_part_0, cc_M_part_1, cc_M_part_2, cc_M_part_3, eq_self, hw, m5, hne5, cca, e3x, not_true_eq_false, not_false_eq_true, if_true, if_false, true_or, or_true, false_or, or_false, true_and, and_true, false_and, and_false, and_self, or_self, reduceIte, Bool.false_eq_true, i10, i01]
          rfl
        have hie : INV p2 r2 n nt := INV_of hib (sc_h2 x2) (sl_k1 x3)
        cases hq : d_best (LN q) n nt (F + 1) with
        | none =>
          rw [hq] at h7 x4
          refine ⟨-9223372036854775808, p, r, p2, r2, n, nt, hcl _ ?_, ?_, hie⟩
          · simp only [b_92_e, b_92_20, b_92_24, b_92_41, b_92_57, b_92_72, b_92_85, e_iload_1, e_if_lt, k_2, e_icmp_gt, e_aloadr_0, g_512_0, g_132_1, k_5, e_icmp_lt, e_jsr, kl_m9223372036854775808, e_lret, g_513_0, g_72_26, e_if_ne, Option.toList_some, Option.toList_none, List.cons_append, List.nil_append, g_71_26, k_m9, e_icmp_ne, e_i2l, e_goto, g_70_26, k_1, e_isub, cc_Share_told_0, cc_Share_told_1, cc_Share_told_2, cc_Share_told_3, lay_27, lay_28, lay_30, lay_31, lay_32, lay_43, lay_44, lay_46, lay_49, lay_60, eq_self, h7, Option.map, oM_n, n9n9, not_true_eq_false, not_false_eq_true, if_true, if_false, true_or, or_true, false_or, or_false, true_and, and_true, false_and, and_false, and_self, or_self, reduceIte, Bool.false_eq_true, i10, i01]
          · rw [hpre]
            simp only [b_171_e, b_171_24, b_171_28, b_171_62, b_171_131, b_171_152, b_171_158, b_171_171, b_171_199, b_171_206, e_iload_1, k_0, k_2, cc_M_within_0, cc_M_within_1, cc_M_within_2, cc_M_within_3, Option.toList_some, Option.toList_none, List.cons_append, List.nil_append, e_if_eq, e_aloadr_0, g_579_61, k_5, e_icmp_eq, e_if_ne, e_jsr, kl_m9223372036854775808, e_lret, k_m9, p_609_61, e_istore_2, e_kpi, e_kpr, e_kpl, e_kpd, e_istore_3, e_iload_3, g_578_61, il_62, il_63, il_64, il_66, il_67, il_68, il_69, il_70, il_71, il_72, il_73, il_74, il_75, il_76, il_77, ik_62_0, ik_62_1, ik_62_2, ik_62_3, ik_62_4, ik_73_0, ik_74_0, e_icmp_gt, cc_M_isTaken_0, cc_M_isTaken_1, cc_M_isTaken_2, cc_M_isTaken_3, e_goto, g_581_61, e_iload_2, is_62, is_63, is_64, is_66, is_67, is_68, is_69, is_70, is_71, is_72, is_73, is_74, is_75, is_76, is_77, iks_73_0, iks_74_0, g_582_61, is_65, e_dupr, e_dupi, k_1, e_iadd, p_579_61, e_isub, g_609_61, g_599_61, g_611_61, e_lmul, g_610_61, g_600_61, e_lcmp, e_if_le, p_610_61, p_611_61, e_iinc_3, e_icmp_ne, p_595_61, p_596_61, e_i2l, cc_M_part_0, cc_M_part_1, cc_M_part_2, cc_M_part_3, eq_self, x4, Option.map, oM_n, n9n9, not_true_eq_false, not_false_eq_true, if_true, if_false, true_or, or_true, false_or, or_false, true_and, and_true, false_and, and_false, and_self, or_self, reduceIte, Bool.false_eq_true, i10, i01]
        | some bb =>
          obtain ⟨v, y⟩ := bb
          have hy := best_lt hq
          rw [hq] at h7 x4
          have f1' := hfr v y hq
          have f2' := x5 v y hq
          have hm19 : ∀ U2, r2 61 34 = Int64.ofInt U2 → am_up (am_up r2 61 19 (r2 61 34)) 61 20 (r2 61 35) 61 19 = Int64.ofInt U2 := fun U2 h => by rw [up_ud, if_neg (by decide), if_pos ⟨rfl, rfl⟩]; exact h
          have hm20 : ∀ D2, r2 61 35 = Int64.ofInt D2 → am_up (am_up r2 61 19 (r2 61 34)) 61 20 (r2 61 35) 61 20 = Int64.ofInt D2 := fun D2 h => by rw [up_ud, if_pos ⟨rfl, rfl⟩]; exact h
          have e61 : am_up r2 61 19 (r2 61 34) 61 35 = r2 61 35 := by rw [am_upa, if_neg (by decide)]
          have hie2 : INV p2 (am_up (am_up r2 61 19 (r2 61 34)) 61 20 (r2 61 35)) n nt := INV_of hib (sc_h2 x2) (sl_k1 (k1_tr k1_up x3))
          by_cases hw0 : w = 0
          · subst hw0
            refine ⟨(nI y).toInt64, p, r, p2, am_up (am_up r2 61 19 (r2 61 34)) 61 20 (r2 61 35), n, nt, hcl _ ?_, ?_, hie2⟩
            · simp only [b_92_e, b_92_20, b_92_24, b_92_41, b_92_57, b_92_72, b_92_85, e_iload_1, e_if_lt, k_2, e_icmp_gt, e_aloadr_0, g_512_0, g_132_1, k_5, e_icmp_lt, e_jsr, kl_m9223372036854775808, e_lret, g_513_0, g_72_26, e_if_ne, Option.toList_some, Option.toList_none, List.cons_append, List.nil_append, g_71_26, k_m9, e_icmp_ne, e_i2l, e_goto, g_70_26, k_1, e_isub, cc_Share_told_0, cc_Share_told_1, cc_Share_told_2, cc_Share_told_3, lay_27, lay_28, lay_30, lay_31, lay_32, lay_43, lay_44, lay_46, lay_49, lay_60, eq_self, h7, Option.map, oM_s, eq_n9 (show y < 1000 by omega), not_true_eq_false, not_false_eq_true, if_true, if_false, true_or, or_true, false_or, or_false, true_and, and_true, false_and, and_false, and_self, or_self, reduceIte, Bool.false_eq_true, i10, i01]
            · rw [hpre]
              simp only [b_171_e, b_171_24, b_171_28, b_171_62, b_171_131, b_171_152, b_171_158, b_171_171, b_171_199, b_171_206, e_iload_1, k_0, k_2, cc_M_within_0, cc_M_within_1, cc_M_within_2, cc_M_within_3, Option.toList_some, Option.toList_none, List.cons_append, List.nil_append, e_if_eq, e_aloadr_0, g_579_61, k_5, e_icmp_eq, e_if_ne, e_jsr, kl_m9223372036854775808, e_lret, k_m9, p_609_61, e_istore_2, e_kpi, e_kpr, e_kpl, e_kpd, e_istore_3, e_iload_3, g_578_61, il_62, il_63, il_64, il_66, il_67, il_68, il_69, il_70, il_71, il_72, il_73, il_74, il_75, il_76, il_77, ik_62_0, ik_62_1, ik_62_2, ik_62_3, ik_62_4, ik_73_0, ik_74_0, e_icmp_gt, cc_M_isTaken_0, cc_M_isTaken_1, cc_M_isTaken_2, cc_M_isTaken_3, e_goto, g_581_61, e_iload_2, is_62, is_63, is_64, is_66, is_67, is_68, is_69, is_70, is_71, is_72, is_73, is_74, is_75, is_76, is_77, iks_73_0, iks_74_0, g_582_61, is_65, e_dupr, e_dupi, k_1, e_iadd, p_579_61, e_isub, g_609_61, g_599_61, g_611_61, e_lmul, g_610_61, g_600_61, e_lcmp, e_if_le, p_610_61, p_611_61, e_iinc_3, e_icmp_ne, p_595_61, p_596_61, e_i2l, cc_M_part_0, cc_M_part_1, cc_M_part_2, cc_M_part_3, eq_self, x4, Option.map, oM_s, eq_n9 (show y < 1000 by omega), e61, not_true_eq_false, not_false_eq_true, if_true, if_false, true_or, or_true, false_or, or_false, true_and, and_true, false_and, and_false, and_self, or_self, reduceIte, Bool.false_eq_true, i10, i01]
          · obtain ⟨U, D, u1, u2, u3, u4, u5⟩ := fr2_told (w - 1) f1' (Nat.le_refl _)
            obtain ⟨U2, D2, y1, y2, y3, y4, y5⟩ := fr2_told (w - 1) f2' (Nat.le_refl _)
            refine ⟨Int64.ofInt (q_told v (w - 1)), p, r, p2, am_up (am_up r2 61 19 (r2 61 34)) 61 20 (r2 61 35), n, nt, hcl _ ?_, ?_, hie2⟩
            · rw [← u5]
              simp only [b_92_e, b_92_20, b_92_24, b_92_41, b_92_57, b_92_72, b_92_85, e_iload_1, e_if_lt, k_2, e_icmp_gt, e_aloadr_0, g_512_0, g_132_1, k_5, e_icmp_lt, e_jsr, kl_m9223372036854775808, e_lret, g_513_0, g_72_26, e_if_ne, Option.toList_some, Option.toList_none, List.cons_append, List.nil_append, g_71_26, k_m9, e_icmp_ne, e_i2l, e_goto, g_70_26, k_1, e_isub, cc_Share_told_0, cc_Share_told_1, cc_Share_told_2, cc_Share_told_3, lay_27, lay_28, lay_30, lay_31, lay_32, lay_43, lay_44, lay_46, lay_49, lay_60, eq_self, h7, Option.map, oM_s, eq_n9 (show y < 1000 by omega), hw0, cc_Share_told_0 (U := U) (D := D) lay_30 u1 u2 u3 u4, not_true_eq_false, not_false_eq_true, if_true, if_false, true_or, or_true, false_or, or_false, true_and, and_true, false_and, and_false, and_self, or_self, reduceIte, Bool.false_eq_true, i10, i01]
            · rw [hpre, ← y5]
              simp only [b_171_e, b_171_24, b_171_28, b_171_62, b_171_131, b_171_152, b_171_158, b_171_171, b_171_199, b_171_206, e_iload_1, k_0, k_2, cc_M_within_0, cc_M_within_1, cc_M_within_2, cc_M_within_3, Option.toList_some, Option.toList_none, List.cons_append, List.nil_append, e_if_eq, e_aloadr_0, g_579_61, k_5, e_icmp_eq, e_if_ne, e_jsr, kl_m9223372036854775808, e_lret, k_m9, p_609_61, e_istore_2, e_kpi, e_kpr, e_kpl, e_kpd, e_istore_3, e_iload_3, g_578_61, il_62, il_63, il_64, il_66, il_67, il_68, il_69, il_70, il_71, il_72, il_73, il_74, il_75, il_76, il_77, ik_62_0, ik_62_1, ik_62_2, ik_62_3, ik_62_4, ik_73_0, ik_74_0, e_icmp_gt, cc_M_isTaken_0, cc_M_isTaken_1, cc_M_isTaken_2, cc_M_isTaken_3, e_goto, g_581_61, e_iload_2, is_62, is_63, is_64, is_66, is_67, is_68, is_69, is_70, is_71, is_72, is_73, is_74, is_75, is_76, is_77, iks_73_0, iks_74_0, g_582_61, is_65, e_dupr, e_dupi, k_1, e_iadd, p_579_61, e_isub, g_609_61, g_599_61, g_611_61, e_lmul, g_610_61, g_600_61, e_lcmp, e_if_le, p_610_61, p_611_61, e_iinc_3, e_icmp_ne, p_595_61, p_596_61, e_i2l, cc_M_part_0, cc_M_part_1, cc_M_part_2, cc_M_part_3, eq_self, x4, Option.map, oM_s, eq_n9 (show y < 1000 by omega), e61, hw0, cc_M_part_0 (U := U2) (D := D2) (hm19 U2 y1) (hm20 D2 y2) y3 y4, not_true_eq_false, not_false_eq_true, if_true, if_false, true_or, or_true, false_or, or_false, true_and, and_true, false_and, and_false, and_self, or_self, reduceIte, Bool.false_eq_true, i10, i01]
      · have hb0 : d_busy (LN q) (kO (LN q)) nt = 0 := by omega
        have hat : ev E 172 (am_B 172 0) [.ref 61] [] (HH p r) = some (some (.int 0), HH pb r) := by
          have : (nI (d_busy (LN q) (kO (LN q)) nt) ≤ 0) = True := by rw [hb0]; exact eq_true (by decide +kernel)
          simp only [b_172_e, b_172_11, b_172_12, e_aloadr_0, Option.toList_some, Option.toList_none, List.cons_append, List.nil_append, e_if_le, k_1, e_goto, k_0, e_jsr, e_zret0, e_zret1, eq_self, cct, this, not_true_eq_false, not_false_eq_true, if_true, if_false, true_or, or_true, false_or, or_false, true_and, and_true, false_and, and_false, and_self, or_self, reduceIte, Bool.false_eq_true, i10, i01]
        have cca : ∀ {M_ : Nat} {c_ : List Instr} {L_ : List Value}, ev E M_ (.invokevirtual 172 :: c_) L_ (.ref 61 :: []) (HH p r) = ev E M_ c_ L_ (.int 0 :: []) (HH pb r) := fun {M_} {c_} {L_} => e_inv (as := [.ref 61]) (S := []) rfl rfl (Nat.le_of_ble_eq_true rfl) (rfl) (hat)
        rw [idle_best hb0] at h7
        refine ⟨-9223372036854775808, p, r, pb, r, n, nt, hcl _ ?_, ?_, hib⟩
        · simp only [b_92_e, b_92_20, b_92_24, b_92_41, b_92_57, b_92_72, b_92_85, e_iload_1, e_if_lt, k_2, e_icmp_gt, e_aloadr_0, g_512_0, g_132_1, k_5, e_icmp_lt, e_jsr, kl_m9223372036854775808, e_lret, g_513_0, g_72_26, e_if_ne, Option.toList_some, Option.toList_none, List.cons_append, List.nil_append, g_71_26, k_m9, e_icmp_ne, e_i2l, e_goto, g_70_26, k_1, e_isub, cc_Share_told_0, cc_Share_told_1, cc_Share_told_2, cc_Share_told_3, lay_27, lay_28, lay_30, lay_31, lay_32, lay_43, lay_44, lay_46, lay_49, lay_60, eq_self, h7, Option.map, oM_n, n9n9, not_true_eq_false, not_false_eq_true, if_true, if_false, true_or, or_true, false_or, or_false, true_and, and_true, false_and, and_false, and_self, or_self, reduceIte, Bool.false_eq_true, i10, i01]
        · simp only [b_171_e, b_171_24, b_171_28, b_171_62, b_171_131, b_171_152, b_171_158, b_171_171, b_171_199, b_171_206, e_iload_1, k_0, k_2, cc_M_within_0, cc_M_within_1, cc_M_within_2, cc_M_within_3, Option.toList_some, Option.toList_none, List.cons_append, List.nil_append, e_if_eq, e_aloadr_0, g_579_61, k_5, e_icmp_eq, e_if_ne, e_jsr, kl_m9223372036854775808, e_lret, k_m9, p_609_61, e_istore_2, e_kpi, e_kpr, e_kpl, e_kpd, e_istore_3, e_iload_3, g_578_61, il_62, il_63, il_64, il_66, il_67, il_68, il_69, il_70, il_71, il_72, il_73, il_74, il_75, il_76, il_77, ik_62_0, ik_62_1, ik_62_2, ik_62_3, ik_62_4, ik_73_0, ik_74_0, e_icmp_gt, cc_M_isTaken_0, cc_M_isTaken_1, cc_M_isTaken_2, cc_M_isTaken_3, e_goto, g_581_61, e_iload_2, is_62, is_63, is_64, is_66, is_67, is_68, is_69, is_70, is_71, is_72, is_73, is_74, is_75, is_76, is_77, iks_73_0, iks_74_0, g_582_61, is_65, e_dupr, e_dupi, k_1, e_iadd, p_579_61, e_isub, g_609_61, g_599_61, g_611_61, e_lmul, g_610_61, g_600_61, e_lcmp, e_if_le, p_610_61, p_611_61, e_iinc_3, e_icmp_ne, p_595_61, p_596_61, e_i2l, cc_M_part_0, cc_M_part_1, cc_M_part_2, cc_M_part_3, eq_self, hw, m5, hne5, cca, not_true_eq_false, not_false_eq_true, if_true, if_false, true_or, or_true, false_or, or_false, true_and, and_true, false_and, and_false, and_self, or_self, reduceIte, Bool.false_eq_true, i10, i01]
    · have h5 : n = 5 := by omega
      have hlt : (nI n < 5) = False := by rw [h5]; exact eq_false (by decide +kernel)
      have hne5 : (nI n = 5) = True := by rw [h5]; exact eq_true (by decide +kernel)
      refine ⟨-9223372036854775808, q, s, q, s, n, nt, ?_, ?_, hi⟩
      · simp only [b_92_e, b_92_20, b_92_24, b_92_41, b_92_57, b_92_72, b_92_85, e_iload_1, e_if_lt, k_2, e_icmp_gt, e_aloadr_0, g_512_0, g_132_1, k_5, e_icmp_lt, e_jsr, kl_m9223372036854775808, e_lret, g_513_0, g_72_26, e_if_ne, Option.toList_some, Option.toList_none, List.cons_append, List.nil_append, g_71_26, k_m9, e_icmp_ne, e_i2l, e_goto, g_70_26, k_1, e_isub, cc_Share_told_0, cc_Share_told_1, cc_Share_told_2, cc_Share_told_3, lay_27, lay_28, lay_30, lay_31, lay_32, lay_43, lay_44, lay_46, lay_49, lay_60, eq_self, hw1, hw2, l1, hlt, not_true_eq_false, not_false_eq_true, if_true, if_false, true_or, or_true, false_or, or_false, true_and, and_true, false_and, and_false, and_self, or_self, reduceIte, Bool.false_eq_true, i10, i01]
      · simp only [b_171_e, b_171_24, b_171_28, b_171_62, b_171_131, b_171_152, b_171_158, b_171_171, b_171_199, b_171_206, e_iload_1, k_0, k_2, cc_M_within_0, cc_M_within_1, cc_M_within_2, cc_M_within_3, Option.toList_some, Option.toList_none, List.cons_append, List.nil_append, e_if_eq, e_aloadr_0, g_579_61, k_5, e_icmp_eq, e_if_ne, e_jsr, kl_m9223372036854775808, e_lret, k_m9, p_609_61, e_istore_2, e_kpi, e_kpr, e_kpl, e_kpd, e_istore_3, e_iload_3, g_578_61, il_62, il_63, il_64, il_66, il_67, il_68, il_69, il_70, il_71, il_72, il_73, il_74, il_75, il_76, il_77, ik_62_0, ik_62_1, ik_62_2, ik_62_3, ik_62_4, ik_73_0, ik_74_0, e_icmp_gt, cc_M_isTaken_0, cc_M_isTaken_1, cc_M_isTaken_2, cc_M_isTaken_3, e_goto, g_581_61, e_iload_2, is_62, is_63, is_64, is_66, is_67, is_68, is_69, is_70, is_71, is_72, is_73, is_74, is_75, is_76, is_77, iks_73_0, iks_74_0, g_582_61, is_65, e_dupr, e_dupi, k_1, e_iadd, p_579_61, e_isub, g_609_61, g_599_61, g_611_61, e_lmul, g_610_61, g_600_61, e_lcmp, e_if_le, p_610_61, p_611_61, e_iinc_3, e_icmp_ne, p_595_61, p_596_61, e_i2l, cc_M_part_0, cc_M_part_1, cc_M_part_2, cc_M_part_3, eq_self, hw, l5, hne5, not_true_eq_false, not_false_eq_true, if_true, if_false, true_or, or_true, false_or, or_false, true_and, and_true, false_and, and_false, and_self, or_self, reduceIte, Bool.false_eq_true, i10, i01]
  · refine ⟨-9223372036854775808, q, s, q, s, n, nt, ?_, ?_, hi⟩
    · by_cases h1 : w < 0
      · simp only [b_92_e, b_92_20, b_92_24, b_92_41, b_92_57, b_92_72, b_92_85, e_iload_1, e_if_lt, k_2, e_icmp_gt, e_aloadr_0, g_512_0, g_132_1, k_5, e_icmp_lt, e_jsr, kl_m9223372036854775808, e_lret, g_513_0, g_72_26, e_if_ne, Option.toList_some, Option.toList_none, List.cons_append, List.nil_append, g_71_26, k_m9, e_icmp_ne, e_i2l, e_goto, g_70_26, k_1, e_isub, cc_Share_told_0, cc_Share_told_1, cc_Share_told_2, cc_Share_told_3, lay_27, lay_28, lay_30, lay_31, lay_32, lay_43, lay_44, lay_46, lay_49, lay_60, eq_self, h1, not_true_eq_false, not_false_eq_true, if_true, if_false, true_or, or_true, false_or, or_false, true_and, and_true, false_and, and_false, and_self, or_self, reduceIte, Bool.false_eq_true, i10, i01]
      · have h2 : 2 < w := Int32.not_le.mp (fun z => hw ⟨Int32.not_lt.mp h1, z⟩)
        simp only [b_92_e, b_92_20, b_92_24, b_92_41, b_92_57, b_92_72, b_92_85, e_iload_1, e_if_lt, k_2, e_icmp_gt, e_aloadr_0, g_512_0, g_132_1, k_5, e_icmp_lt, e_jsr, kl_m9223372036854775808, e_lret, g_513_0, g_72_26, e_if_ne, Option.toList_some, Option.toList_none, List.cons_append, List.nil_append, g_71_26, k_m9, e_icmp_ne, e_i2l, e_goto, g_70_26, k_1, e_isub, cc_Share_told_0, cc_Share_told_1, cc_Share_told_2, cc_Share_told_3, lay_27, lay_28, lay_30, lay_31, lay_32, lay_43, lay_44, lay_46, lay_49, lay_60, eq_self, h1, h2, not_true_eq_false, not_false_eq_true, if_true, if_false, true_or, or_true, false_or, or_false, true_and, and_true, false_and, and_false, and_self, or_self, reduceIte, Bool.false_eq_true, i10, i01]
    · simp only [b_171_e, b_171_24, b_171_28, b_171_62, b_171_131, b_171_152, b_171_158, b_171_171, b_171_199, b_171_206, e_iload_1, k_0, k_2, cc_M_within_0, cc_M_within_1, cc_M_within_2, cc_M_within_3, Option.toList_some, Option.toList_none, List.cons_append, List.nil_append, e_if_eq, e_aloadr_0, g_579_61, k_5, e_icmp_eq, e_if_ne, e_jsr, kl_m9223372036854775808, e_lret, k_m9, p_609_61, e_istore_2, e_kpi, e_kpr, e_kpl, e_kpd, e_istore_3, e_iload_3, g_578_61, il_62, il_63, il_64, il_66, il_67, il_68, il_69, il_70, il_71, il_72, il_73, il_74, il_75, il_76, il_77, ik_62_0, ik_62_1, ik_62_2, ik_62_3, ik_62_4, ik_73_0, ik_74_0, e_icmp_gt, cc_M_isTaken_0, cc_M_isTaken_1, cc_M_isTaken_2, cc_M_isTaken_3, e_goto, g_581_61, e_iload_2, is_62, is_63, is_64, is_66, is_67, is_68, is_69, is_70, is_71, is_72, is_73, is_74, is_75, is_76, is_77, iks_73_0, iks_74_0, g_582_61, is_65, e_dupr, e_dupi, k_1, e_iadd, p_579_61, e_isub, g_609_61, g_599_61, g_611_61, e_lmul, g_610_61, g_600_61, e_lcmp, e_if_le, p_610_61, p_611_61, e_iinc_3, e_icmp_ne, p_595_61, p_596_61, e_i2l, cc_M_part_0, cc_M_part_1, cc_M_part_2, cc_M_part_3, eq_self, hw, not_true_eq_false, not_false_eq_true, if_true, if_false, true_or, or_true, false_or, or_false, true_and, and_true, false_and, and_false, and_self, or_self, reduceIte, Bool.false_eq_true, i10, i01]
end Bt
