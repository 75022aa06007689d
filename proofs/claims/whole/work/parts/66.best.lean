/-! BEST NEW; the class's findBest, isSafeWithout -/
/-- the line with one more station, n, at x -/
def LX (L : Nat → Nat → Int32) (n : Nat) (x : Int32) : Nat → Nat → Int32 := fun a b => if a = 6 + n ∧ b = 1 then x else if a = 6 + n ∧ b = 2 then 1 else L a b
def d_best (L : Nat → Nat → Int32) (n nt : Nat) : Nat → Option (Rat × Nat)
  | 0 => none
  | x + 1 => if anyB (fun s => decide (sP L s = nI x)) n = true then d_best L n nt x else (match d_low (kC (LX L n (nI x)) (-9) (n + 1)) (kL L (kO L) nt) nt 24 with
    | none => d_best L n nt x
    | some e => (match d_best L n nt x with
      | none => some (e.1, x)
      | some b => if b.1 < e.1 then some (e.1, x) else some b))
theorem LX_ne {L : Nat → Nat → Int32} {n : Nat} {x : Int32} {a b : Nat} (h : ¬ a = 6 + n) : LX L n x a b = L a b := by unfold LX; rw [if_neg (fun z => h z.1), if_neg (fun z => h z.1)]
theorem LX_P {L : Nat → Nat → Int32} {n : Nat} {x : Int32} : sP (LX L n x) n = x := by show (if 6 + n = 6 + n ∧ 1 = 1 then x else _) = x; rw [if_pos ⟨rfl, rfl⟩]
theorem LX_I {L : Nat → Nat → Int32} {n : Nat} {x : Int32} : sI (LX L n x) n = true := by
  have : LX L n x (6 + n) 2 = 1 := by show (if 6 + n = 6 + n ∧ 2 = 1 then x else if 6 + n = 6 + n ∧ 2 = 2 then 1 else _) = 1; rw [if_neg (by omega), if_pos ⟨rfl, rfl⟩]
  unfold sI
  rw [this]
  decide
theorem LX_s {L : Nat → Nat → Int32} {n : Nat} {x : Int32} {s : Nat} (h : s < n) : sP (LX L n x) s = sP L s ∧ sI (LX L n x) s = sI L s := by
  have e : ∀ b, LX L n x (6 + s) b = L (6 + s) b := fun b => LX_ne (by omega)
  unfold sP sI
  rw [e, e]
  exact ⟨rfl, rfl⟩
theorem LX_S {L : Nat → Nat → Int32} {n : Nat} {x : Int32} (h : LiS L n) (hn : n < 5) (hx : bd x) (ht : ∀ s, s < n → ¬ sP L s = x) : LiS (LX L n x) (n + 1) := by
  obtain ⟨h1, h2, h3⟩ := h
  refine ⟨by omega, fun s hs => ?_, fun s t hst ht2 => ?_⟩
  · by_cases e : s = n
    · rw [e, LX_P]; exact hx
    · rw [(LX_s (by omega)).1]; exact h2 s (by omega)
  · by_cases e : t = n
    · rw [e, LX_P, (LX_s (by omega)).1]; exact ht s (by omega)
    · rw [(LX_s (by omega)).1, (LX_s (by omega)).1]; exact h3 s t hst (by omega)
theorem LX_R {L : Nat → Nat → Int32} {n : Nat} {x : Int32} (h : LiR L) : LiR (LX L n x) := by
  have e : ∀ b, LX L n x 2 b = L 2 b := fun b => LX_ne (by omega)
  unfold LiR
  rw [e, e, e, e, e]
  exact h
theorem tkS_in {L : Nat → Nat → Int32} {s : Nat} (hs : s < 5) : tkS L (-9) s = sI L s := by
  unfold tkS
  have : ¬ nI s = (-9 : Int32) := fun z => by rw [eq_n9 (show s < 1000 by omega)] at z; exact z
  simp [this]
theorem kC_P {L : Nat → Nat → Int32} {w : Int32} {n : Nat} (hS : LiS L n) : ∀ j, j < q_m (kC L w n) → 0 ≤ q_P (kC L w n) j ∧ q_P (kC L w n) j ≤ 200 := fun j hj => by
  obtain ⟨c1, c2, c3, c4⟩ := CG_tks (w := w) hS.2.2
  obtain ⟨s, s1, s2, s3, s4⟩ := c2 j hj
  have hb := hS.2.1 s s1
  have e : q_P (kC L w n) j = qI (sP L s).toInt := by show qI (cP (tks L w n) j) = _; unfold cP; rw [s4]
  rw [e]
  have h1 := qI_le.mpr hb.1
  have h2 := qI_le.mpr hb.2
  exact ⟨h1, h2⟩
theorem low_ge {L M : Nat → Nat → Int32} {w : Int32} {off : Nat → Nat} {n nt : Nat} (hS : LiS M n) (hR : LiR M) (hT : LiT L nt) {v : Rat} {a k : Nat} (h : d_low (kC M w n) (kL L off nt) nt 24 = some (v, a, k)) : -8000 ≤ v := by
  obtain ⟨h1, h2, h3, h4⟩ := d_low_val h
  obtain ⟨r0, r1, r2, r3, r4, r5, r6⟩ := hR
  have hb := kL_bd (off := off) hT h1
  have hx := ((hb k).1 h3).2.2.1
  rw [h4]
  unfold q_vn
  have hy : q_y (q_end (kC M w n) (kL L off nt a)) = q_y (kL L off nt a) := (q_sol_th (kC M w n) 46 (kL L off nt a)).2
  rw [hy]
  refine q_v_ge ⟨?_, ?_⟩ ?_ (kC_P hS) ⟨?_, ?_⟩ (q_sol_bd 46 _ (fun n _ => (hb n).2.1))
  · exact qI_le.mpr (show 0 ≤ (M 2 1).toInt by omega)
  · exact qI_le.mpr (show (M 2 1).toInt ≤ 20 by omega)
  · exact qI_le.mpr (show 0 ≤ (M 2 2).toInt by omega)
  · exact qI_le.mpr hx.1
  · exact qI_le.mpr hx.2
section Bs
variable {E : aE} {q : Nat → Nat → Int32} {ml : Nat → Nat → Int64} {n nt : Nat}
/-- cells that findBest changes -/
def f4 (p q : Nat → Nat → Int32) : Prop := ∀ a b, ¬ a = 33 → ¬ a = 34 → ¬ a = 35 → ¬ a = 36 → ¬ a = 37 → ¬ a = 40 → ¬ a = 41 → ¬ a = 42 → ¬ (a = 26 ∧ (b = 2 ∨ b = 3 ∨ b = 7 ∨ b = 8)) → p a b = q a b
def g4 (r s : Nat → Nat → Int64) : Prop := ∀ a b, ¬ a = 27 → ¬ a = 28 → ¬ a = 30 → ¬ a = 31 → ¬ a = 32 → ¬ a = 38 → ¬ a = 39 → ¬ a = 43 → ¬ a = 44 → ¬ a = 60 → r a b = s a b
def d_curB (o : Option (Rat × Nat)) : Rat := match o with
  | none => -1000000000
  | some b => b.1
theorem f2_f4 {p q r : Nat → Nat → Int32} (h : f2 p q) (h2 : f4 q r) : f4 p r := fun a b x1 x2 x3 x4 x5 x6 x7 x8 x9 => by rw [h a b x1 x2 x3 x4 x5 x6 x7 x8 (by omega), h2 a b x1 x2 x3 x4 x5 x6 x7 x8 x9]
theorem LN_f4 {p q : Nat → Nat → Int32} (h : f4 p q) : LN p = LN q := LN_cg (fun a b h1 _ => h a b (by omega) (by omega) (by omega) (by omega) (by omega) (by omega) (by omega) (by omega) (by omega))
theorem LI_f4 {p q : Nat → Nat → Int32} (h : f4 p q) (hl : LI q n nt) : LI p n nt := by
  have e : ∀ a b, 1 ≤ a ∧ a ≤ 25 → p a b = q a b := fun a b z => h a b (by omega) (by omega) (by omega) (by omega) (by omega) (by omega) (by omega) (by omega) (by omega)
  obtain ⟨⟨l1, l2⟩, l3, l4, l5, l6⟩ := hl
  refine ⟨⟨by rw [e 1 4 (by omega)]; exact l1, by rw [e 1 5 (by omega)]; exact l2⟩, by rw [LN_f4 h]; exact l3, by rw [LN_f4 h]; exact l4, by rw [LN_f4 h]; exact l5, fun k hk => ?_⟩
  unfold oF
  rw [e 5 k (by omega)]
  exact l6 k hk
/-- stations and one more -/
theorem LX_cS {x : Int32} (hl : LI q n nt) (hn : n < 5) (hx : bd x) (ht : ∀ s, s < n → ¬ sP (LN q) s = x) : cS (ads (tks q (-9) n) (cntB (tkS q (-9)) n) (nI n) x) (kC (LX (LN q) n x) (-9) (n + 1)) ∧ cR (ads (tks q (-9) n) (cntB (tkS q (-9)) n) (nI n) x) (kC (LX (LN q) n x) (-9) (n + 1)) ∧ 0 < q_m (kC (LX (LN q) n x) (-9) (n + 1)) := by
  obtain ⟨⟨l1, l2⟩, l3, l4, l5, l6⟩ := hl
  have hts : tkS (LX (LN q) n x) (-9) n = true := by rw [tkS_in hn]; exact LX_I
  have hc : cntB (tkS (LX (LN q) n x) (-9)) (n + 1) = cntB (tkS (LX (LN q) n x) (-9)) n + 1 := cntB_step hts
  have htk : tks (LX (LN q) n x) (-9) (n + 1) = ads (tks (LX (LN q) n x) (-9) n) (cntB (tkS (LX (LN q) n x) (-9)) n) (nI n) x := by
    rw [tks, if_pos hts, LX_P]
  obtain ⟨e1, e2⟩ := tks_cg (p := q) (q := LX (LN q) n x) (w := -9) (i := n) (fun s hs => by
    rw [(LX_s hs).1, (LX_s hs).2, LN_sP (by omega), LN_sI (by omega)]; exact ⟨rfl, rfl⟩)
  refine ⟨kC_cS (LX_S l3 hn hx ht) ?_ ?_, kC_cR (LX_R l4) (fun b => ?_), ?_⟩
  · rw [ads_34, hc, e1]
  · rw [hc, htk, e1]
    exact ads_cg e2
  · rw [ads_ne (by decide) (by decide) (by decide), tks_ne (by decide) (by decide) (by decide), LX_ne (by omega), LN_2]
  · show 0 < cntB (tkS (LX (LN q) n x) (-9)) (n + 1)
    omega
theorem f2_ads {p : Nat → Nat → Int32} {m : Nat} {s x : Int32} : f2 (ads p m s x) p := fun a b x1 x2 x3 x4 x5 x6 x7 x8 x9 => ads_ne x2 x3 x4
theorem bd_nI {x : Int32} (h : bd x) : ∃ F, F ≤ 200 ∧ x = nI F := ⟨x.toInt.toNat, by unfold bd at h; omega, by
  unfold bd at h
  rw [← Int32.toInt_inj, nI_toInt (by omega)]
  omega⟩
theorem y_best {F : Nat} (hl : LI q n nt) (hn : n < 5) (hF : q 2 0 = nI F) (hF2 : F ≤ 200) : ∃ p r, ev E 93 (am_B 93 0) [.ref 26, am_dm] [] (HH q ml) = some (none, HH p r) ∧ f4 p q ∧ g4 r ml ∧ p 26 8 = 1 ∧ p 26 7 = oM ((d_best (LN q) n nt (F + 1)).map (fun b => b.2)) ∧ ∀ v x, d_best (LN q) n nt (F + 1) = some (v, x) → fr2 (r 30 0) (r 30 1) v 1000000000000 := by
  obtain ⟨⟨l1, l2⟩, l3, l4, l5, l6⟩ := id hl
  simp only [b_93_e, b_93_125, b_93_131, e_aloadr_0, k_m9, p_71_26, g_70_26, kl_m1000000000, kl_1, cc_Share_become_0, cc_Share_become_1, cc_Share_become_2, cc_Share_become_3, lay_27, lay_28, lay_30, lay_31, lay_32, lay_43, lay_44, lay_46, lay_49, lay_60, Option.toList_some, Option.toList_none, List.cons_append, List.nil_append, k_0, e_istore_1, e_kpi, e_kpr, e_kpl, e_kpd, e_jsr, e_iload_1, g_73_26, g_128_1, il_2, il_5, il_33, il_35, il_36, il_41, il_42, il_tp, il_ta, il_sc, il_po, ik_2_0, ik_2_1, ik_2_2, ik_2_3, ik_2_4, e_icmp_gt, cc_Line_hasStationAt_0, cc_Line_hasStationAt_1, cc_Line_hasStationAt_2, cc_Line_hasStationAt_3, e_if_ne, cc_Day_takeStations_0, cc_Day_takeStations_1, cc_Day_takeStations_2, cc_Day_takeStations_3, g_64_26, g_132_1, cc_Circuit_addStation_0, cc_Circuit_addStation_1, cc_Circuit_addStation_2, cc_Circuit_addStation_3, g_256_27, g_256_28, g_256_30, g_256_31, g_256_32, g_256_43, g_256_44, g_256_46, g_256_49, g_256_60, gS_0, g_257_27, g_257_28, g_257_30, g_257_31, g_257_32, g_257_43, g_257_44, g_257_46, g_257_49, g_257_60, gS_1, e_if_eq, g_65_26, cc_Share_isBelow_0, cc_Share_isBelow_1, cc_Share_isBelow_2, cc_Share_isBelow_3, e_iinc_1, e_goto, k_1, p_72_26, e_ret, eq_self, cc_Share_become_0 lay_30, shr_up]
  obtain ⟨s', hlp, hJ⟩ := loop_inv (fun i (s : (Nat → Nat → Int32) × (Nat → Nat → Int64)) => ev E 93 (am_B 93 (Int.toNat 19)) [.ref 26, .int (nI i)] [] (HH s.1 s.2)) (fun i s => f4 s.1 q ∧ g4 s.2 ml ∧ s.1 26 7 = oM ((d_best (LN q) n nt i).map (fun b => b.2)) ∧ fr2 (s.2 30 0) (s.2 30 1) (d_curB (d_best (LN q) n nt i)) 1000000000000) (F + 1) (fun i s hi hj => by
    obtain ⟨p, r⟩ := s
    obtain ⟨j1, j2, j3, j4⟩ := hj
    dsimp only at j1 j2 j3 j4 ⊢
    have hlp := LI_f4 j1 hl
    have eLN := LN_f4 j1
    have e20 : p 2 0 = nI F := by rw [j1 2 0 (by decide) (by decide) (by decide) (by decide) (by decide) (by decide) (by decide) (by decide) (by decide)]; exact hF
    have hgt : (nI F < nI i) = False := eq_false (fun z => by have := (nI_ltI (by omega) (by omega)).mp z; omega)
    obtain ⟨⟨p1, p2⟩, p3, p4, p5, p6⟩ := id hlp
    have hsta : anyB (fun s => decide (sP p s = nI i)) n = anyB (fun s => decide (sP (LN q) s = nI i)) n := by
      rw [Bool.eq_iff_iff, anyB_iff, anyB_iff]
      have e : ∀ s, s < n → sP p s = sP (LN q) s := fun s hs => by rw [← eLN, LN_sP (by omega)]
      constructor
      · rintro ⟨s, h1, h2⟩; exact ⟨s, h1, by rw [← e s h1]; exact h2⟩
      · rintro ⟨s, h1, h2⟩; exact ⟨s, h1, by rw [e s h1]; exact h2⟩
    rw [d_best]
    by_cases hta : anyB (fun s => decide (sP (LN q) s = nI i)) n = true
    · rw [if_pos hta]
      refine ⟨(p, r), hd b_93_19 ?_, j1, j2, j3, j4⟩
      simp only [b_93_e, b_93_125, b_93_131, e_aloadr_0, k_m9, p_71_26, g_70_26, kl_m1000000000, kl_1, cc_Share_become_0, cc_Share_become_1, cc_Share_become_2, cc_Share_become_3, lay_27, lay_28, lay_30, lay_31, lay_32, lay_43, lay_44, lay_46, lay_49, lay_60, Option.toList_some, Option.toList_none, List.cons_append, List.nil_append, k_0, e_istore_1, e_kpi, e_kpr, e_kpl, e_kpd, e_jsr, e_iload_1, g_73_26, g_128_1, il_2, il_5, il_33, il_35, il_36, il_41, il_42, il_tp, il_ta, il_sc, il_po, ik_2_0, ik_2_1, ik_2_2, ik_2_3, ik_2_4, e_icmp_gt, cc_Line_hasStationAt_0, cc_Line_hasStationAt_1, cc_Line_hasStationAt_2, cc_Line_hasStationAt_3, e_if_ne, cc_Day_takeStations_0, cc_Day_takeStations_1, cc_Day_takeStations_2, cc_Day_takeStations_3, g_64_26, g_132_1, cc_Circuit_addStation_0, cc_Circuit_addStation_1, cc_Circuit_addStation_2, cc_Circuit_addStation_3, g_256_27, g_256_28, g_256_30, g_256_31, g_256_32, g_256_43, g_256_44, g_256_46, g_256_49, g_256_60, gS_0, g_257_27, g_257_28, g_257_30, g_257_31, g_257_32, g_257_43, g_257_44, g_257_46, g_257_49, g_257_60, gS_1, e_if_eq, g_65_26, cc_Share_isBelow_0, cc_Share_isBelow_1, cc_Share_isBelow_2, cc_Share_isBelow_3, e_iinc_1, e_goto, k_1, p_72_26, e_ret, eq_self, e20, hgt, cc_Line_hasStationAt_0 p1 p3.1, hsta, hta, not_true_eq_false, not_false_eq_true, if_true, if_false, true_or, or_true, false_or, or_false, true_and, and_true, false_and, and_false, and_self, or_self, reduceIte, Bool.false_eq_true, i10, i01, e_inc1]
    · rw [if_neg hta]
      have htk : ∀ s, s < n → ¬ sP (LN p) s = nI i := fun s hs z => hta (anyB_iff.mpr ⟨s, hs, by rw [← eLN]; simpa using z⟩)
      have hbi : bd (nI i) := by unfold bd; rw [nI_toInt (by omega)]; omega
      obtain ⟨hS, hR, hm⟩ := LX_cS hlp hn hbi htk
      have hcn : cntB (tkS p (-9)) n < 5 := by have := cntB_le (f := tkS p (-9)) (n := n); omega
      have hfa : f2 (ads (tks p (-9) n) (cntB (tkS p (-9)) n) (nI n) (nI i)) p := f2_tr f2_ads f2_tks
      have e14 : tks p (-9) n 1 4 = nI n := by rw [tks_ne (by decide) (by decide) (by decide)]; exact p1
      have hcT : cT (ads (tks p (-9) n) (cntB (tkS p (-9)) n) (nI n) (nI i)) (kC (LX (LN p) n (nI i)) (-9) (n + 1)) (LN p) (kO (LN p)) nt 5 := by
        refine ⟨hS, hR, ?_, LI_e hfa, fun k hk => ?_⟩
        · rw [hfa 1 5 (by decide) (by decide) (by decide) (by decide) (by decide) (by decide) (by decide) (by decide) (by decide)]; exact p2
        · have e5 : ads (tks p (-9) n) (cntB (tkS p (-9)) n) (nI n) (nI i) 5 k = p 5 k := hfa 5 k (by decide) (by decide) (by decide) (by decide) (by decide) (by decide) (by decide) (by decide) (by omega)
          rw [kO_LN]
          unfold oF
          rw [e5]
          exact ⟨p6 k (by have := p5.1; omega), rfl⟩
      obtain ⟨p', r', w1, w2, w3, w4⟩ := y_low (E := E) (ml := r) (U := r 30 0) (D := r 30 1) hcT hm p5 j4
      rw [eLN] at w1 w4
      have hf4 : f4 p' q := f2_f4 (f2_tr (f2_f1 w2) hfa) j1
      have hg4 : g4 r' ml := fun a b x1 x2 x3 x4 x5 x6 x7 x8 x9 x10 => by rw [w3 a b x1 x2 x4 x5 x6 x7 x8 x9 x10, j2 a b x1 x2 x3 x4 x5 x6 x7 x8 x9 x10]
      have e30 : ∀ b, r' 30 b = r 30 b := fun b => w3 30 b (by decide) (by decide) (by decide) (by decide) (by decide) (by decide) (by decide) (by decide) (by decide)
      have e267 : p' 26 7 = p 26 7 := by
        rw [w2 26 7 (by decide) (by decide) (by decide) (by decide) (by decide), hfa 26 7 (by decide) (by decide) (by decide) (by decide) (by decide) (by decide) (by decide) (by decide) (by decide)]
      cases hlo : d_low (kC (LX (LN q) n (nI i)) (-9) (n + 1)) (kL (LN q) (kO (LN q)) nt) nt 24 with
      | none =>
        rw [hlo] at w1
        have cc1 : ∀ {M_ : Nat} {c_ : List Instr} {L_ : List Value}, ev E M_ (.invokevirtual 69 :: c_) L_ (.long (r 30 1) :: .long (r 30 0) :: .ref 26 :: []) (HH (ads (tks p (-9) n) (cntB (tkS p (-9)) n) (nI n) (nI i)) r) = ev E M_ c_ L_ (.int (if (none : dLw).isSome = true then 1 else 0) :: []) (HH p' r') := fun {M_} {c_} {L_} => e_inv (as := [.ref 26, .long (r 30 0), .long (r 30 1)]) (S := []) rfl rfl (Nat.le_of_ble_eq_true rfl) (rfl) (w1)
        refine ⟨(p', r'), hd b_93_19 ?_, hf4, hg4, by dsimp only; rw [e267]; exact j3, by dsimp only; rw [e30, e30]; exact j4⟩
        simp only [b_93_e, b_93_125, b_93_131, e_aloadr_0, k_m9, p_71_26, g_70_26, kl_m1000000000, kl_1, cc_Share_become_0, cc_Share_become_1, cc_Share_become_2, cc_Share_become_3, lay_27, lay_28, lay_30, lay_31, lay_32, lay_43, lay_44, lay_46, lay_49, lay_60, Option.toList_some, Option.toList_none, List.cons_append, List.nil_append, k_0, e_istore_1, e_kpi, e_kpr, e_kpl, e_kpd, e_jsr, e_iload_1, g_73_26, g_128_1, il_2, il_5, il_33, il_35, il_36, il_41, il_42, il_tp, il_ta, il_sc, il_po, ik_2_0, ik_2_1, ik_2_2, ik_2_3, ik_2_4, e_icmp_gt, cc_Line_hasStationAt_0, cc_Line_hasStationAt_1, cc_Line_hasStationAt_2, cc_Line_hasStationAt_3, e_if_ne, cc_Day_takeStations_0, cc_Day_takeStations_1, cc_Day_takeStations_2, cc_Day_takeStations_3, g_64_26, g_132_1, cc_Circuit_addStation_0, cc_Circuit_addStation_1, cc_Circuit_addStation_2, cc_Circuit_addStation_3, g_256_27, g_256_28, g_256_30, g_256_31, g_256_32, g_256_43, g_256_44, g_256_46, g_256_49, g_256_60, gS_0, g_257_27, g_257_28, g_257_30, g_257_31, g_257_32, g_257_43, g_257_44, g_257_46, g_257_49, g_257_60, gS_1, e_if_eq, g_65_26, cc_Share_isBelow_0, cc_Share_isBelow_1, cc_Share_isBelow_2, cc_Share_isBelow_3, e_iinc_1, e_goto, k_1, p_72_26, e_ret, eq_self, e20, hgt, cc_Line_hasStationAt_0 p1 p3.1, hsta, hta, cc_Day_takeStations_0 p1 p3.1, e14, cc_Circuit_addStation_0 (tks_cnt n) hcn, gS_0 lay_30, gS_1 lay_30, cc1, Option.isSome_none, not_true_eq_false, not_false_eq_true, if_true, if_false, true_or, or_true, false_or, or_false, true_and, and_true, false_and, and_false, and_self, or_self, reduceIte, Bool.false_eq_true, i10, i01, e_inc1]
      | some e =>
        obtain ⟨v, et, en⟩ := e
        rw [hlo] at w1
        have cc1 : ∀ {M_ : Nat} {c_ : List Instr} {L_ : List Value}, ev E M_ (.invokevirtual 69 :: c_) L_ (.long (r 30 1) :: .long (r 30 0) :: .ref 26 :: []) (HH (ads (tks p (-9) n) (cntB (tkS p (-9)) n) (nI n) (nI i)) r) = ev E M_ c_ L_ (.int (if (some (v, et, en) : dLw).isSome = true then 1 else 0) :: []) (HH p' r') := fun {M_} {c_} {L_} => e_inv (as := [.ref 26, .long (r 30 0), .long (r 30 1)]) (S := []) rfl rfl (Nat.le_of_ble_eq_true rfl) (rfl) (w1)
        have hvge := low_ge (LX_S l3 hn hbi (fun s hs => by have := htk s hs; rwa [eLN] at this)) (LX_R l4) l5 hlo
        obtain ⟨h, m4, m5⟩ : ∃ h, fr2 (r' 27 0) (r' 27 1) h 1000000000000 ∧ (h = v ∨ (v ≤ h ∧ h ≤ d_curB (d_best (LN q) n nt i))) := by
          rcases w4 with z | ⟨v2, t2, n2, v', z1, z2, z3, z4⟩
          · exact ⟨v, (z v et en hlo).1, Or.inl rfl⟩
          · rw [hlo] at z1
            cases z1
            exact ⟨v', z2, Or.inr ⟨z3, z4⟩⟩
        have hcmp := fr2_lt j4 m4 (Nat.le_refl _)
        rw [← e30 0, ← e30 1] at hcmp
        have hiff : (d_curB (d_best (LN q) n nt i) < h) = (d_curB (d_best (LN q) n nt i) < v) := by
          rcases m5 with z | ⟨z1, z2⟩
          · rw [z]
          · apply propext; constructor <;> intro y <;> grind
        by_cases hlt : d_curB (d_best (LN q) n nt i) < v
        · have hh : h = v := by
            rcases m5 with z | ⟨z1, z2⟩
            · exact z
            · exfalso; grind
          have hdb : (match d_best (LN q) n nt i with
            | none => some (v, i)
            | some b => if b.1 < v then some (v, i) else some b) = some (v, i) := by
            cases hq : d_best (LN q) n nt i with
            | none => rfl
            | some b => rw [hq] at hlt; exact if_pos hlt
          refine ⟨(am_up p' 26 7 (nI i), shr r' 30 (r' 27 0) (r' 27 1)), hd b_93_19 ?_, ?_, ?_, ?_, ?_⟩
          · simp only [b_93_e, b_93_125, b_93_131, e_aloadr_0, k_m9, p_71_26, g_70_26, kl_m1000000000, kl_1, cc_Share_become_0, cc_Share_become_1, cc_Share_become_2, cc_Share_become_3, lay_27, lay_28, lay_30, lay_31, lay_32, lay_43, lay_44, lay_46, lay_49, lay_60, Option.toList_some, Option.toList_none, List.cons_append, List.nil_append, k_0, e_istore_1, e_kpi, e_kpr, e_kpl, e_kpd, e_jsr, e_iload_1, g_73_26, g_128_1, il_2, il_5, il_33, il_35, il_36, il_41, il_42, il_tp, il_ta, il_sc, il_po, ik_2_0, ik_2_1, ik_2_2, ik_2_3, ik_2_4, e_icmp_gt, cc_Line_hasStationAt_0, cc_Line_hasStationAt_1, cc_Line_hasStationAt_2, cc_Line_hasStationAt_3, e_if_ne, cc_Day_takeStations_0, cc_Day_takeStations_1, cc_Day_takeStations_2, cc_Day_takeStations_3, g_64_26, g_132_1, cc_Circuit_addStation_0, cc_Circuit_addStation_1, cc_Circuit_addStation_2, cc_Circuit_addStation_3, g_256_27, g_256_28, g_256_30, g_256_31, g_256_32, g_256_43, g_256_44, g_256_46, g_256_49, g_256_60, gS_0, g_257_27, g_257_28, g_257_30, g_257_31, g_257_32, g_257_43, g_257_44, g_257_46, g_257_49, g_257_60, gS_1, e_if_eq, g_65_26, cc_Share_isBelow_0, cc_Share_isBelow_1, cc_Share_isBelow_2, cc_Share_isBelow_3, e_iinc_1, e_goto, k_1, p_72_26, e_ret, eq_self, e20, hgt, cc_Line_hasStationAt_0 p1 p3.1, hsta, hta, cc_Day_takeStations_0 p1 p3.1, e14, cc_Circuit_addStation_0 (tks_cnt n) hcn, gS_0 lay_30, gS_1 lay_30, gS_0 lay_27, gS_1 lay_27, cc1, Option.isSome_some, cc_Share_isBelow_0 lay_30 lay_27, hcmp, hiff, hlt, cc_Share_become_0 lay_30, shr_up, not_true_eq_false, not_false_eq_true, if_true, if_false, true_or, or_true, false_or, or_false, true_and, and_true, false_and, and_false, and_self, or_self, reduceIte, Bool.false_eq_true, i10, i01, e_inc1]
          · intro a b x1 x2 x3 x4 x5 x6 x7 x8 x9
            dsimp only
            rw [am_upa, if_neg (by omega)]; exact hf4 a b x1 x2 x3 x4 x5 x6 x7 x8 x9
          · intro a b x1 x2 x3 x4 x5 x6 x7 x8 x9 x10
            dsimp only
            rw [shr_ne x3]; exact hg4 a b x1 x2 x3 x4 x5 x6 x7 x8 x9 x10
          · dsimp only; rw [am_up_self, hdb]; rfl
          · dsimp only
            rw [shr_0, shr_1, hdb]
            show fr2 _ _ v _
            rw [← hh]; exact m4
        · have hdb : (match d_best (LN q) n nt i with
            | none => some (v, i)
            | some b => if b.1 < v then some (v, i) else some b) = d_best (LN q) n nt i := by
            cases hq : d_best (LN q) n nt i with
            | none => exfalso; apply hlt; rw [hq]; show (-1000000000 : Rat) < v; grind
            | some b => rw [hq] at hlt; exact if_neg hlt
          refine ⟨(p', r'), hd b_93_19 ?_, hf4, hg4, by dsimp only; rw [e267, hdb]; exact j3, by dsimp only; rw [e30, e30, hdb]; exact j4⟩
          simp only [b_93_e, b_93_125, b_93_131, e_aloadr_0, k_m9, p_71_26, g_70_26, kl_m1000000000, kl_1, cc_Share_become_0, cc_Share_become_1, cc_Share_become_2, cc_Share_become_3, lay_27, lay_28, lay_30, lay_31, lay_32, lay_43, lay_44, lay_46, lay_49, lay_60, Option.toList_some, Option.toList_none, List.cons_append, List.nil_append, k_0, e_istore_1, e_kpi, e_kpr, e_kpl, e_kpd, e_jsr, e_iload_1, g_73_26, g_128_1, il_2, il_5, il_33, il_35, il_36, il_41, il_42, il_tp, il_ta, il_sc, il_po, ik_2_0, ik_2_1, ik_2_2, ik_2_3, ik_2_4, e_icmp_gt, cc_Line_hasStationAt_0, cc_Line_hasStationAt_1, cc_Line_hasStationAt_2, cc_Line_hasStationAt_3, e_if_ne, cc_Day_takeStations_0, cc_Day_takeStations_1, cc_Day_takeStations_2, cc_Day_takeStations_3, g_64_26, g_132_1, cc_Circuit_addStation_0, cc_Circuit_addStation_1, cc_Circuit_addStation_2, cc_Circuit_addStation_3, g_256_27, g_256_28, g_256_30, g_256_31, g_256_32, g_256_43, g_256_44, g_256_46, g_256_49, g_256_60, gS_0, g_257_27, g_257_28, g_257_30, g_257_31, g_257_32, g_257_43, g_257_44, g_257_46, g_257_49, g_257_60, gS_1, e_if_eq, g_65_26, cc_Share_isBelow_0, cc_Share_isBelow_1, cc_Share_isBelow_2, cc_Share_isBelow_3, e_iinc_1, e_goto, k_1, p_72_26, e_ret, eq_self, e20, hgt, cc_Line_hasStationAt_0 p1 p3.1, hsta, hta, cc_Day_takeStations_0 p1 p3.1, e14, cc_Circuit_addStation_0 (tks_cnt n) hcn, gS_0 lay_30, gS_1 lay_30, cc1, Option.isSome_some, cc_Share_isBelow_0 lay_30 lay_27, hcmp, hiff, hlt, not_true_eq_false, not_false_eq_true, if_true, if_false, true_or, or_true, false_or, or_false, true_and, and_true, false_and, and_false, and_self, or_self, reduceIte, Bool.false_eq_true, i10, i01, e_inc1]) (am_up q 26 7 (-9), shr ml 30 (-1000000000) 1) ⟨fun a b x1 x2 x3 x4 x5 x6 x7 x8 x9 => by dsimp only; rw [am_upa, if_neg (by omega)], fun a b x1 x2 x3 x4 x5 x6 x7 x8 x9 x10 => shr_ne x3, by dsimp only; rw [am_up_self]; rfl, by dsimp only; rw [shr_0, shr_1]; exact fr2_nfar⟩
  obtain ⟨p, r⟩ := s'
  obtain ⟨j1, j2, j3, j4⟩ := hJ
  dsimp only at hlp j1 j2 j3 j4
  have e20 : p 2 0 = nI F := by rw [j1 2 0 (by decide) (by decide) (by decide) (by decide) (by decide) (by decide) (by decide) (by decide) (by decide)]; exact hF
  have hgt : (nI F < nI (F + 1)) = True := eq_true ((nI_ltI (by omega) (by omega)).mpr (by omega))
  refine ⟨am_up p 26 8 1, r, Eq.trans (show _ = _ from hlp) (hd b_93_19 ?_), fun a b x1 x2 x3 x4 x5 x6 x7 x8 x9 => ?_, j2, am_up_self, by rw [am_upa, if_neg (by decide)]; exact j3, fun v x h => by rw [h] at j4; exact j4⟩
  · simp only [b_93_e, b_93_125, b_93_131, e_aloadr_0, k_m9, p_71_26, g_70_26, kl_m1000000000, kl_1, cc_Share_become_0, cc_Share_become_1, cc_Share_become_2, cc_Share_become_3, lay_27, lay_28, lay_30, lay_31, lay_32, lay_43, lay_44, lay_46, lay_49, lay_60, Option.toList_some, Option.toList_none, List.cons_append, List.nil_append, k_0, e_istore_1, e_kpi, e_kpr, e_kpl, e_kpd, e_jsr, e_iload_1, g_73_26, g_128_1, il_2, il_5, il_33, il_35, il_36, il_41, il_42, il_tp, il_ta, il_sc, il_po, ik_2_0, ik_2_1, ik_2_2, ik_2_3, ik_2_4, e_icmp_gt, cc_Line_hasStationAt_0, cc_Line_hasStationAt_1, cc_Line_hasStationAt_2, cc_Line_hasStationAt_3, e_if_ne, cc_Day_takeStations_0, cc_Day_takeStations_1, cc_Day_takeStations_2, cc_Day_takeStations_3, g_64_26, g_132_1, cc_Circuit_addStation_0, cc_Circuit_addStation_1, cc_Circuit_addStation_2, cc_Circuit_addStation_3, g_256_27, g_256_28, g_256_30, g_256_31, g_256_32, g_256_43, g_256_44, g_256_46, g_256_49, g_256_60, gS_0, g_257_27, g_257_28, g_257_30, g_257_31, g_257_32, g_257_43, g_257_44, g_257_46, g_257_49, g_257_60, gS_1, e_if_eq, g_65_26, cc_Share_isBelow_0, cc_Share_isBelow_1, cc_Share_isBelow_2, cc_Share_isBelow_3, e_iinc_1, e_goto, k_1, p_72_26, e_ret, eq_self, e20, hgt, or_true, not_true_eq_false, not_false_eq_true, if_true, if_false, true_or, or_true, false_or, or_false, true_and, and_true, false_and, and_false, and_self, or_self, reduceIte, Bool.false_eq_true, i10, i01]
  · rw [am_upa, if_neg (by omega)]; exact j1 a b x1 x2 x3 x4 x5 x6 x7 x8 x9
/-- whether the day is safe without w -/
def d_safe (L : Nat → Nat → Int32) (w : Int32) (n nt : Nat) : Bool := decide (0 < q_m (kC L w n)) && (match d_low (kC L w n) (kL L (kO L) nt) nt 24 with
  | none => true
  | some e => decide (qI (L 2 4).toInt ≤ e.1))
theorem LI_T (hl : LI q n nt) (w : Int32) : cT (tks q w n) (kC (LN q) w n) (LN q) (kO (LN q)) nt 5 := by
  obtain ⟨hS, hR⟩ := LI_S hl w
  obtain ⟨⟨l1, l2⟩, l3, l4, l5, l6⟩ := id hl
  refine ⟨hS, hR, ?_, LI_e f2_tks, fun k hk => ?_⟩
  · rw [tks_ne (by decide) (by decide) (by decide)]; exact l2
  · have e5 : tks q w n 5 k = q 5 k := tks_ne (by decide) (by decide) (by decide) n
    rw [kO_LN]
    unfold oF
    rw [e5]
    exact ⟨l6 k (by have := l5.1; omega), rfl⟩
/-- LOWEST with no bar -/
theorem y_low0 {w : Int32} (hl : LI q n nt) (hm : 0 < q_m (kC (LN q) w n)) : ∃ p r, ev E 69 (am_B 69 0) [.ref 26, .long (-1000000000), am_dm, .long 1, am_dm, am_dm, am_dm] [] (HH (tks q w n) ml) = some (some (.int (if (d_low (kC (LN q) w n) (kL (LN q) (kO (LN q)) nt) nt 24).isSome = true then 1 else 0)), HH p r) ∧ f2 p q ∧ g1 r ml ∧ d_in (d_low (kC (LN q) w n) (kL (LN q) (kO (LN q)) nt) nt 24) (r 27 0) (r 27 1) (p 26 2) (p 26 3) := by
  obtain ⟨p, r, w1, w2, w3, w4⟩ := y_low (E := E) (ml := ml) (LI_T hl w) hm hl.2.2.2.1 fr2_nfar
  refine ⟨p, r, w1, f2_tr (f2_f1 w2) f2_tks, w3, ?_⟩
  rcases w4 with z | ⟨v, t, k, v', z1, z2, z3, z4⟩
  · exact z
  · exfalso
    have := low_ge hl.2.1 hl.2.2.1 hl.2.2.2.1 z1
    grind
theorem y_safe {w : Int32} (hl : LI q n nt) : ∃ p r, ev E 72 (am_B 72 0) [.ref 26, .int w] [] (HH q ml) = some (some (.int (if d_safe (LN q) w n nt = true then 1 else 0)), HH p r) ∧ f2 p q ∧ g1 r ml := by
  obtain ⟨⟨l1, l2⟩, l3, l4, l5, l6⟩ := id hl
  have hcg := (tks_cg (p := q) (q := LN q) (w := w) (i := n) (fun s hs => ⟨(LN_sP (by have := l3.1; omega)).symm, (LN_sI (by have := l3.1; omega)).symm⟩)).1
  have hmm : q_m (kC (LN q) w n) = cntB (tkS q w) n := hcg.symm
  have hle := cntB_le (f := tkS q w) (n := n)
  have hn5 := l3.1
  by_cases h0 : cntB (tkS q w) n = 0
  · have hs : d_safe (LN q) w n nt = false := by unfold d_safe; rw [hmm, h0]; rfl
    have hz : (nI 0 = 0) = True := eq_true rfl
    refine ⟨tks q w n, ml, ?_, f2_tks, g1_rf⟩
    simp only [b_72_e, b_72_17, b_72_57, b_72_61, b_72_62, e_aloadr_0, e_iload_1, cc_Day_takeStations_0, cc_Day_takeStations_1, cc_Day_takeStations_2, cc_Day_takeStations_3, Option.toList_some, Option.toList_none, List.cons_append, List.nil_append, g_64_26, g_5_34, e_if_ne, k_0, e_zret0, e_zret1, kl_m1000000000, kl_1, e_if_eq, g_65_26, g_256_27, g_256_28, g_256_30, g_256_31, g_256_32, g_256_43, g_256_44, g_256_46, g_256_49, g_256_60, gS_0, g_73_26, g_128_1, k_4, il_2, il_5, il_33, il_35, il_36, il_41, il_42, il_tp, il_ta, il_sc, il_po, ik_2_0, ik_2_1, ik_2_2, ik_2_3, ik_2_4, e_i2l, g_257_27, g_257_28, g_257_30, g_257_31, g_257_32, g_257_43, g_257_44, g_257_46, g_257_49, g_257_60, gS_1, e_lmul, e_lcmp, e_if_lt, e_jsr, k_1, e_goto, eq_self, cc_Day_takeStations_0 l1 l3.1, tks_cnt, h0, hz, hs, not_true_eq_false, not_false_eq_true, if_true, if_false, true_or, or_true, false_or, or_false, true_and, and_true, false_and, and_false, and_self, or_self, reduceIte, Bool.false_eq_true, i10, i01]
  · have hm : 0 < q_m (kC (LN q) w n) := by omega
    have hz : (nI (cntB (tkS q w) n) = 0) = False := eq_false (nI_ne0 (by omega) (by omega))
    obtain ⟨p, r, w1, w2, w3, w4⟩ := y_low0 (E := E) (ml := ml) hl hm
    have cc1 : ∀ {M_ : Nat} {c_ : List Instr} {L_ : List Value}, ev E M_ (.invokevirtual 69 :: c_) L_ (.long 1 :: .long (-1000000000) :: .ref 26 :: []) (HH (tks q w n) ml) = ev E M_ c_ L_ (.int (if (d_low (kC (LN q) w n) (kL (LN q) (kO (LN q)) nt) nt 24).isSome = true then 1 else 0) :: []) (HH p r) := fun {M_} {c_} {L_} => e_inv (as := [.ref 26, .long (-1000000000), .long 1]) (S := []) rfl rfl (Nat.le_of_ble_eq_true rfl) (rfl) (w1)
    refine ⟨p, r, ?_, w2, w3⟩
    have hs : d_safe (LN q) w n nt = (match d_low (kC (LN q) w n) (kL (LN q) (kO (LN q)) nt) nt 24 with
      | none => true
      | some e => decide (qI (LN q 2 4).toInt ≤ e.1)) := by unfold d_safe; simp [hm]
    cases hlo : d_low (kC (LN q) w n) (kL (LN q) (kO (LN q)) nt) nt 24 with
    | none =>
      rw [hlo] at hs cc1
      simp only [b_72_e, b_72_17, b_72_57, b_72_61, b_72_62, e_aloadr_0, e_iload_1, cc_Day_takeStations_0, cc_Day_takeStations_1, cc_Day_takeStations_2, cc_Day_takeStations_3, Option.toList_some, Option.toList_none, List.cons_append, List.nil_append, g_64_26, g_5_34, e_if_ne, k_0, e_zret0, e_zret1, kl_m1000000000, kl_1, e_if_eq, g_65_26, g_256_27, g_256_28, g_256_30, g_256_31, g_256_32, g_256_43, g_256_44, g_256_46, g_256_49, g_256_60, gS_0, g_73_26, g_128_1, k_4, il_2, il_5, il_33, il_35, il_36, il_41, il_42, il_tp, il_ta, il_sc, il_po, ik_2_0, ik_2_1, ik_2_2, ik_2_3, ik_2_4, e_i2l, g_257_27, g_257_28, g_257_30, g_257_31, g_257_32, g_257_43, g_257_44, g_257_46, g_257_49, g_257_60, gS_1, e_lmul, e_lcmp, e_if_lt, e_jsr, k_1, e_goto, eq_self, cc_Day_takeStations_0 l1 l3.1, tks_cnt, hz, cc1, Option.isSome_none, hs, not_true_eq_false, not_false_eq_true, if_true, if_false, true_or, or_true, false_or, or_false, true_and, and_true, false_and, and_false, and_self, or_self, reduceIte, Bool.false_eq_true, i10, i01]
    | some e =>
      obtain ⟨v, et, en⟩ := e
      rw [hlo] at hs cc1
      dsimp only at hs
      have hf := (w4 v et en hlo).1
      have e24 : p 2 4 = LN q 2 4 := by rw [LN_2]; exact w2 2 4 (by decide) (by decide) (by decide) (by decide) (by decide) (by decide) (by decide) (by decide) (by decide)
      have hge := fr2_ge (T := LN q 2 4) hf (Nat.le_refl _) (by have := l4.2.2.2.2.1; omega)
      by_cases h1 : qI (LN q 2 4).toInt ≤ v
      · have hlt : (r 27 0 < (LN q 2 4).toInt64 * r 27 1) = False := eq_false (by rw [Int64.not_lt, hge]; exact h1)
        simp only [b_72_e, b_72_17, b_72_57, b_72_61, b_72_62, e_aloadr_0, e_iload_1, cc_Day_takeStations_0, cc_Day_takeStations_1, cc_Day_takeStations_2, cc_Day_takeStations_3, Option.toList_some, Option.toList_none, List.cons_append, List.nil_append, g_64_26, g_5_34, e_if_ne, k_0, e_zret0, e_zret1, kl_m1000000000, kl_1, e_if_eq, g_65_26, g_256_27, g_256_28, g_256_30, g_256_31, g_256_32, g_256_43, g_256_44, g_256_46, g_256_49, g_256_60, gS_0, g_73_26, g_128_1, k_4, il_2, il_5, il_33, il_35, il_36, il_41, il_42, il_tp, il_ta, il_sc, il_po, ik_2_0, ik_2_1, ik_2_2, ik_2_3, ik_2_4, e_i2l, g_257_27, g_257_28, g_257_30, g_257_31, g_257_32, g_257_43, g_257_44, g_257_46, g_257_49, g_257_60, gS_1, e_lmul, e_lcmp, e_if_lt, e_jsr, k_1, e_goto, eq_self, cc_Day_takeStations_0 l1 l3.1, tks_cnt, hz, cc1, Option.isSome_some, gS_0 lay_27, gS_1 lay_27, e24, lg_cmp_lt, hlt, hs, h1, decide_true, not_true_eq_false, not_false_eq_true, if_true, if_false, true_or, or_true, false_or, or_false, true_and, and_true, false_and, and_false, and_self, or_self, reduceIte, Bool.false_eq_true, i10, i01]
      · have hlt : (r 27 0 < (LN q 2 4).toInt64 * r 27 1) = True := eq_true (by rw [← Int64.not_le, hge]; exact h1)
        simp only [b_72_e, b_72_17, b_72_57, b_72_61, b_72_62, e_aloadr_0, e_iload_1, cc_Day_takeStations_0, cc_Day_takeStations_1, cc_Day_takeStations_2, cc_Day_takeStations_3, Option.toList_some, Option.toList_none, List.cons_append, List.nil_append, g_64_26, g_5_34, e_if_ne, k_0, e_zret0, e_zret1, kl_m1000000000, kl_1, e_if_eq, g_65_26, g_256_27, g_256_28, g_256_30, g_256_31, g_256_32, g_256_43, g_256_44, g_256_46, g_256_49, g_256_60, gS_0, g_73_26, g_128_1, k_4, il_2, il_5, il_33, il_35, il_36, il_41, il_42, il_tp, il_ta, il_sc, il_po, ik_2_0, ik_2_1, ik_2_2, ik_2_3, ik_2_4, e_i2l, g_257_27, g_257_28, g_257_30, g_257_31, g_257_32, g_257_43, g_257_44, g_257_46, g_257_49, g_257_60, gS_1, e_lmul, e_lcmp, e_if_lt, e_jsr, k_1, e_goto, eq_self, cc_Day_takeStations_0 l1 l3.1, tks_cnt, hz, cc1, Option.isSome_some, gS_0 lay_27, gS_1 lay_27, e24, lg_cmp_lt, hlt, hs, h1, decide_false, not_true_eq_false, not_false_eq_true, if_true, if_false, true_or, or_true, false_or, or_false, true_and, and_true, false_and, and_false, and_self, or_self, reduceIte, Bool.false_eq_true, i10, i01]
end Bs
