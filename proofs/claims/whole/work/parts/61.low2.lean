/-! THE CLASS'S findLowest, isSafeWithout -/
theorem d_lowT_val {c : qC} {le : qL} {t : Nat} {o : dLw} : ∀ {i : Nat} {v : Rat} {a n : Nat}, d_lowT c le t o i = some (v, a, n) → o = some (v, a, n) ∨ (a = t ∧ n < i ∧ q_th le n = true ∧ v = q_vn c le n) := by
  intro i
  induction i with
  | zero => intro v a n h; exact Or.inl h
  | succ i ih =>
    intro v a n h
    rw [d_lowT] at h
    by_cases ht : q_th le i = true
    · rw [if_pos ht] at h
      cases hq : d_lowT c le t o i with
      | none => rw [hq] at h; cases h; exact Or.inr ⟨rfl, by omega, ht, rfl⟩
      | some b =>
        rw [hq] at h
        dsimp only at h
        split at h
        · cases h; exact Or.inr ⟨rfl, by omega, ht, rfl⟩
        · rw [← hq] at h
          rcases ih h with z | ⟨z1, z2, z3⟩
          · exact Or.inl z
          · exact Or.inr ⟨z1, by omega, z3⟩
    · rw [if_neg ht] at h
      rcases ih h with z | ⟨z1, z2, z3⟩
      · exact Or.inl z
      · exact Or.inr ⟨z1, by omega, z3⟩
theorem d_low_val {c : qC} {l : Nat → qL} {nt : Nat} : ∀ {T : Nat} {v : Rat} {a n : Nat}, d_low c l nt T = some (v, a, n) → a < T ∧ n < nt ∧ q_th (l a) n = true ∧ v = q_vn c (q_end c (l a)) n := by
  intro T
  induction T with
  | zero => intro v a n h; cases h
  | succ T ih =>
    intro v a n h
    rw [d_low] at h
    rcases d_lowT_val h with z | ⟨z1, z2, z3, z4⟩
    · have := ih z; exact ⟨by omega, this.2⟩
    · subst z1
      exact ⟨by omega, z2, by rw [← (q_sol_th c 46 (l a)).1]; exact z3, z4⟩
theorem q_sol_bd {c : qC} : ∀ (k : Nat) (l : qL), (∀ n, n < 5 → (q_am l n).natAbs ≤ 400) → ∀ n, n < 5 → (q_am (q_sol c k l) n).natAbs ≤ 400 := by
  intro k
  induction k with
  | zero => intro l h; exact h
  | succ k ih =>
    intro l h
    rw [q_sol]
    split
    · exact h
    · rename_i i hi
      refine ih _ (fun n hn => ?_)
      show (if n = i then (l.2.2 i).tdiv 2 else l.2.2 n).natAbs ≤ 400
      split
      · have := h i (q_bk_some hi).1
        rw [Int.natAbs_tdiv]
        exact Nat.le_trans (Nat.div_le_self _ _) this
      · exact h n hn
theorem gq_le {a b : Option Rat} {x y : Rat} (ha : ∀ p, a = some p → 0 ≤ p ∧ p ≤ x) (hb : ∀ p, b = some p → x ≤ p ∧ p ≤ 200) (hx : 0 ≤ x ∧ x ≤ 200) : gq a b x y ≤ 200 := by
  unfold gq
  cases a with
  | none =>
    cases b with
    | none => dsimp only; grind
    | some b =>
      have := hb b rfl
      dsimp only
      by_cases h1 : y < b <;> by_cases h2 : x ≤ y <;> grind
  | some a =>
    have ha := ha a rfl
    cases b with
    | none =>
      dsimp only
      by_cases h1 : a < y <;> by_cases h2 : x ≤ y <;> grind
    | some b =>
      have hb := hb b rfl
      dsimp only
      by_cases h1 : a < y ∧ y < b
      · rw [if_pos h1]
        have hp : 0 < b - a := by grind
        have key : ∀ u w : Rat, 0 ≤ u → u ≤ 200 → w ≤ b - a → u * w / (b - a) ≤ 200 := by
          intro u w h0 h2 h3
          have m1 := Rat.mul_le_mul_of_nonneg_left (c := u) h3 h0
          have m2 := Rat.mul_le_mul_of_nonneg_right (c := b - a) h2 (by grind)
          have hz : u * w = u * w / (b - a) * (b - a) := by grind
          generalize u * w / (b - a) = z at hz ⊢
          rcases (show z ≤ 200 ∨ 200 < z by grind) with q | q
          · exact q
          · have := Rat.mul_lt_mul_of_pos_right q hp; grind
        by_cases h2 : x ≤ y
        · rw [if_pos h2]; exact key _ _ (by grind) (by grind) (by grind)
        · rw [if_neg h2]
          have e : (y - a) * (b - x) = (y - a) * (b - x) := rfl
          exact key _ _ (by grind) (by grind) (by grind)
      · rw [if_neg h1]; grind
theorem sumR_le {f : Nat → Rat} {B : Rat} : ∀ {n : Nat}, (∀ i, i < n → f i ≤ B) → sumR f n ≤ qI n * B := by
  intro n
  induction n with
  | zero => intro _; rw [sumR]; show (0 : Rat) ≤ qI 0 * B; rw [qI_0]; grind
  | succ n ih =>
    intro h
    have a := ih (fun i hi => h i (by omega))
    have b := h n (by omega)
    rw [sumR]
    have : qI ((n + 1 : Nat) : Int) = qI n + 1 := by show qI ((n : Int) + 1) = _; rw [qI_add, qI_1]
    rw [this]
    grind
theorem q_v_ge {c : qC} {l : qL} {F : Nat → Bool} {x : Rat} (hR : 0 ≤ c.1.2.1 ∧ c.1.2.1 ≤ 20) (hV : 0 ≤ c.1.1) (hP : ∀ j, j < q_m c → 0 ≤ q_P c j ∧ q_P c j ≤ 200) (hx : 0 ≤ x ∧ x ≤ 200) (ha : ∀ n, n < 5 → (q_am l n).natAbs ≤ 400) : -8000 ≤ q_v c F l x := by
  have hg : ∀ y, 0 ≤ gq ((q_l (q_P c) (q_m c) F x).map (q_P c)) ((q_r (q_P c) (q_m c) F x).map (q_P c)) x y ∧ gq ((q_l (q_P c) (q_m c) F x).map (q_P c)) ((q_r (q_P c) (q_m c) F x).map (q_P c)) x y ≤ 200 := by
    have hl : ∀ p, (q_l (q_P c) (q_m c) F x).map (q_P c) = some p → 0 ≤ p ∧ p ≤ x := fun p hp => by
      cases h : q_l (q_P c) (q_m c) F x with
      | none => rw [h] at hp; cases hp
      | some j =>
        rw [h] at hp
        obtain ⟨g0, g, _⟩ := prvi_some h
        simp only [Bool.and_eq_true, decide_eq_true_eq] at g
        cases hp
        exact ⟨(hP j g0).1, g.2⟩
    have hr : ∀ p, (q_r (q_P c) (q_m c) F x).map (q_P c) = some p → x ≤ p ∧ p ≤ 200 := fun p hp => by
      cases h : q_r (q_P c) (q_m c) F x with
      | none => rw [h] at hp; cases hp
      | some j =>
        rw [h] at hp
        obtain ⟨_, g0, g, _⟩ := fsti_some h
        simp only [Bool.and_eq_true, decide_eq_true_eq] at g
        cases hp
        exact ⟨g.2, (hP j (by omega)).2⟩
    intro y
    exact ⟨gq_pos (fun p hp => (hl p hp).2) (fun p hp => (hr p hp).1), gq_le hl hr hx⟩
  have h := sumR_le (f := fun n => q_a l n * gq ((q_l (q_P c) (q_m c) F x).map (q_P c)) ((q_r (q_P c) (q_m c) F x).map (q_P c)) x (q_y l n)) (B := 80000) (n := 5) (fun n hn => by
    have h1 := ha n hn
    have h2 : q_a l n ≤ 400 := by
      unfold q_a
      have : qI (q_am l n) ≤ qI 400 := qI_le.mpr (by omega)
      exact this
    obtain ⟨g1, g2⟩ := hg (q_y l n)
    have m1 := Rat.mul_le_mul_of_nonneg_right h2 g1
    grind)
  have e5 : qI ((5 : Nat) : Int) = 5 := rfl
  rw [e5] at h
  unfold q_v
  have hk : 0 ≤ c.1.2.1 / 1000 := rdiv_nn hR.1 (by decide)
  have m2 := Rat.mul_le_mul_of_nonneg_left h hk
  have m3 : c.1.2.1 / 1000 * (5 * 80000) ≤ 8000 := by grind
  grind
section Lw2
variable {E : aE} {q : Nat → Nat → Int32} {ml : Nat → Nat → Int64} {c : qC} {L : Nat → Nat → Int32} {off : Nat → Nat} {nt : Nat}
/-- what a loop over the ticks wants of the cells -/
def cT (q : Nat → Nat → Int32) (c : qC) (L : Nat → Nat → Int32) (off : Nat → Nat) (nt k : Nat) : Prop := cS q c ∧ cR q c ∧ q 1 5 = nI nt ∧ (∀ n, n < 5 → ∀ u, tP q n u = tP L n u ∧ tA q n u = tA L n u) ∧ ∀ n, n < nt → (q k n = nI (oF q k n) ∧ oF q k n ≤ 5) ∧ oF q k n = off n
theorem cT_f1 {p : Nat → Nat → Int32} {k : Nat} (hk : k = 5 ∨ k = 33) (h : cT q c L off nt k) (hf : f1 p q) : cT p c L off nt k := by
  obtain ⟨h1, h2, h3, h4, h5⟩ := h
  have e : ∀ a b, a ≤ 25 ∨ (33 ≤ a ∧ a ≤ 36) → p a b = q a b := fun a b z => hf a b (by omega) (by omega) (by omega) (by omega) (by omega)
  refine ⟨cS_of h1 (fun a b z => e a b (by omega)), cR_of h2 (fun b => e 2 b (by omega)), by rw [e 1 5 (by omega)]; exact h3, fun n hn u => ?_, fun n hn => ?_⟩
  · have a1 : tP p n u = tP q n u := e _ _ (by omega)
    have a2 : tA p n u = tA q n u := e _ _ (by omega)
    rw [a1, a2]; exact h4 n hn u
  · unfold oF
    rw [e k n (by omega)]
    exact h5 n hn
theorem cT_tick {k t : Nat} (h : cT q c L off nt k) (hm : 0 < q_m c) (hT : LiT L nt) (ht : t < 24) (r : Nat → Nat → Int64) : cE (stL (q_m c) 46 (tkl q k t nt) r).1 (stL (q_m c) 46 (tkl q k t nt) r).2 c (q_end c (kL L off nt t)) ∧ f1 (stL (q_m c) 46 (tkl q k t nt) r).1 q ∧ g1 (stL (q_m c) 46 (tkl q k t nt) r).2 r ∧ CB (tkl q k t nt) (q_m c) := c_tick h.1 h.2.1 hm hT ht h.2.2.2.1 (fun n hn => (h.2.2.2.2 n hn).2)
theorem cT_any {k t : Nat} (h : cT q c L off nt k) (hT : LiT L nt) (ht : t < 24) : anyB (ldH q k t) nt = anyB (q_th (kL L off nt t)) nt := by
  obtain ⟨_, hl⟩ := c_load (k := k) hT ht h.2.2.2.1 (fun n hn => (h.2.2.2.2 n hn).2)
  rw [Bool.eq_iff_iff, anyB_iff, anyB_iff]
  constructor
  · rintro ⟨i, h1, h2⟩; exact ⟨i, h1, by rw [← hl i h1]; exact h2⟩
  · rintro ⟨i, h1, h2⟩; exact ⟨i, h1, by rw [hl i h1]; exact h2⟩
theorem f1_tkl {k t : Nat} : f1 (tkl q k t nt) q := fun a b x1 x2 x3 x4 x5 => tkl_ne x2 x3 x4 nt
theorem anyB_f {f : Nat → Bool} {n : Nat} (h : ¬ anyB f n = true) : ∀ i, i < n → f i = false := fun i hi => by
  cases hf : f i with
  | false => rfl
  | true => exact absurd (anyB_iff.mpr ⟨i, hi, hf⟩) h
theorem y_low {U D : Int64} {b : Rat} (hc : cT q c L off nt 5) (hm : 0 < q_m c) (hT : LiT L nt) (hb : fr2 U D b 1000000000000) : ∃ p r, ev E 69 (am_B 69 0) [.ref 26, .long U, am_dm, .long D, am_dm, am_dm, am_dm] [] (HH q ml) = some (some (.int (if (d_low c (kL L off nt) nt 24).isSome = true then 1 else 0)), HH p r) ∧ f1 p q ∧ g1 r ml ∧ (d_in (d_low c (kL L off nt) nt 24) (r 27 0) (r 27 1) (p 26 2) (p 26 3) ∨ ∃ v t n v', d_low c (kL L off nt) nt 24 = some (v, t, n) ∧ fr2 (r 27 0) (r 27 1) v' 1000000000000 ∧ v ≤ v' ∧ v' ≤ b) := by
  simp only [b_69_e, b_69_73, b_69_79, k_0, e_istore_5, e_kpi, e_kpr, e_kpl, e_kpd, e_aloadr_0, g_75_26, e_lload_1, e_lload_3, cc_Share_become_0, cc_Share_become_1, cc_Share_become_2, cc_Share_become_3, lay_27, lay_28, lay_30, lay_31, lay_32, lay_43, lay_44, lay_46, lay_49, lay_60, Option.toList_some, Option.toList_none, List.cons_append, List.nil_append, e_istore_6, e_jsr, e_iload_6, k_24, e_icmp_ge, g_73_26, g_131_1, cc_Day_takeLoads_0, cc_Day_takeLoads_1, cc_Day_takeLoads_2, cc_Day_takeLoads_3, e_if_eq, g_64_26, cc_Circuit_settle_0, cc_Circuit_settle_1, cc_Circuit_settle_2, cc_Circuit_settle_3, e_iload_5, k_1, g_65_26, cc_Share_isBelow_0, cc_Share_isBelow_1, cc_Share_isBelow_2, cc_Share_isBelow_3, e_if_ne, e_goto, e_iinc_6, e_zret0, e_zret1, eq_self, cc_Share_become_0 lay_32, shr_up]
  refine loop_ex (fun i (s : (Nat → Nat → Int32) × (Nat → Nat → Int64) × Int32) => ev E 69 (am_B 69 (Int.toNat 15)) [.ref 26, .long U, am_dm, .long D, am_dm, .int s.2.2, .int (nI i)] [] (HH s.1 s.2.1)) (fun i s => f1 s.1 q ∧ g1 s.2.1 ml ∧ s.2.1 32 0 = U ∧ s.2.1 32 1 = D ∧ s.2.2 = (if (d_low c (kL L off nt) nt i).isSome = true then 1 else 0) ∧ d_in (d_low c (kL L off nt) nt i) (s.2.1 27 0) (s.2.1 27 1) (s.1 26 2) (s.1 26 3)) (fun x => ∃ p r, x = some (some (.int (if (d_low c (kL L off nt) nt 24).isSome = true then 1 else 0)), HH p r) ∧ f1 p q ∧ g1 r ml ∧ (d_in (d_low c (kL L off nt) nt 24) (r 27 0) (r 27 1) (p 26 2) (p 26 3) ∨ ∃ v t n v', d_low c (kL L off nt) nt 24 = some (v, t, n) ∧ fr2 (r 27 0) (r 27 1) v' 1000000000000 ∧ v ≤ v' ∧ v' ≤ b)) 24 (fun i s hi hj => ?_) (fun s hj => ?_) (q, shr ml 32 U D, 0) ⟨f1_rf, g1_shr (by simp), by dsimp only; exact shr_0, by dsimp only; exact shr_1, rfl, fun v t n h => by cases h⟩
  · obtain ⟨p, r, f⟩ := s
    obtain ⟨j1, j2, j3, j4, j5, j6⟩ := hj
    dsimp only at j1 j2 j3 j4 j5 j6 ⊢
    have hcp := cT_f1 (Or.inl rfl) hc j1
    obtain ⟨k1, k2, k3, k4⟩ := cT_tick hcp hm hT hi r
    have hany := cT_any hcp hT hi
    have hth : q_th (q_end c (kL L off nt i)) = q_th (kL L off nt i) := (q_sol_th c 46 _).1
    by_cases ha : anyB (q_th (kL L off nt i)) nt = true
    · have hc2 := cT_f1 (Or.inl rfl) hcp k2
      have hni : f1 (stL (q_m c) 46 (tkl p 5 i nt) r).1 p := k2
      have e26 : ∀ b, (stL (q_m c) 46 (tkl p 5 i nt) r).1 26 b = p 26 b := fun b => by
        have := (c_stl hm 46 (tkl p 5 i nt) r (kL L off nt i) (cS_of hcp.1 (fun a b z => tkl_ne (by omega) (by omega) (by omega) nt)) (cR_of hcp.2.1 (fun b => tkl_ne (by omega) (by omega) (by omega) nt)) (c_load hT hi hcp.2.2.2.1 (fun n hn => (hcp.2.2.2.2 n hn).2)).1 (by have := pot_le (a := q_am (kL L off nt i)) (N := 5) (fun n _ => (kL_bd (off := off) hT hi n).2.1); omega)).2.1 26 b (by decide) (by decide)
        rw [this, tkl_ne (by decide) (by decide) (by decide)]
      have e27 : ∀ a b, a = 27 ∨ a = 32 → (stL (q_m c) 46 (tkl p 5 i nt) r).2 a b = r a b := fun a b z => (c_stl hm 46 (tkl p 5 i nt) r (kL L off nt i) (cS_of hcp.1 (fun a b z => tkl_ne (by omega) (by omega) (by omega) nt)) (cR_of hcp.2.1 (fun b => tkl_ne (by omega) (by omega) (by omega) nt)) (c_load hT hi hcp.2.2.2.1 (fun n hn => (hcp.2.2.2.2 n hn).2)).1 (by have := pot_le (a := q_am (kL L off nt i)) (N := 5) (fun n _ => (kL_bd (off := off) hT hi n).2.1); omega)).2.2 a b (by omega) (by omega) (by omega) (by omega)
      obtain ⟨p2, r2, w1, w2, w3, w4⟩ := y_sink (E := E) (t := i) (o := d_low c (kL L off nt) nt i) k1 hc2.2.2.1 hT.1 (by rw [e26, e26, e27 27 0 (by simp), e27 27 1 (by simp)]; exact j6)
      have cc1 : ∀ {M_ : Nat} {c_ : List Instr} {L_ : List Value}, ev E M_ (.invokevirtual 70 :: c_) L_ (.int (if (d_low c (kL L off nt) nt i).isSome = true then 1 else 0) :: .int (nI i) :: .ref 26 :: []) (HH (stL (q_m c) 46 (tkl p 5 i nt) r).1 (stL (q_m c) 46 (tkl p 5 i nt) r).2) = ev E M_ c_ L_ [] (HH p2 r2) := fun {M_} {c_} {L_} => e_inv (as := [.ref 26, .int (nI i), .int (if (d_low c (kL L off nt) nt i).isSome = true then 1 else 0)]) (S := []) rfl rfl (Nat.le_of_ble_eq_true rfl) (rfl) (w1)
      have hf2 : f1 p2 q := f1_tr (fun a b x1 x2 x3 x4 x5 => w3 a b x5) (f1_tr k2 j1)
      have hg2 : g1 r2 ml := g1_tr (fun a b x1 x2 x3 x4 x5 x6 x7 x8 x9 => w4 a b x1 x3) (g1_tr k3 j2)
      have e32 : r2 32 0 = U ∧ r2 32 1 = D := by
        rw [w4 32 0 (by decide) (by decide), w4 32 1 (by decide) (by decide), e27 32 0 (by simp), e27 32 1 (by simp)]; exact ⟨j3, j4⟩
      have hsm : (d_low c (kL L off nt) nt (i + 1)).isSome = true := d_lowT_some (by
        obtain ⟨k, hk, ht⟩ := anyB_iff.mp ha
        exact ⟨k, hk, by rw [hth]; exact ht⟩)
      cases hd1 : d_low c (kL L off nt) nt (i + 1) with
      | none => rw [hd1] at hsm; cases hsm
      | some e =>
        obtain ⟨v, t', n'⟩ := e
        have w2' : d_in (d_low c (kL L off nt) nt (i + 1)) (r2 27 0) (r2 27 1) (p2 26 2) (p2 26 3) := w2
        obtain ⟨z1, z2, z3⟩ := w2' v t' n' hd1
        have hcmp := fr2_lt hb z1 (Nat.le_refl _)
        rw [← e32.1, ← e32.2] at hcmp
        by_cases hlt : b < v
        · right
          refine ⟨(p2, r2, 1), hd b_69_15 ?_, hf2, hg2, e32.1, e32.2, rfl, by rw [hd1] at w2'; exact w2'⟩
          rw [j5]
          simp only [b_69_e, b_69_73, b_69_79, k_0, e_istore_5, e_kpi, e_kpr, e_kpl, e_kpd, e_aloadr_0, g_75_26, e_lload_1, e_lload_3, cc_Share_become_0, cc_Share_become_1, cc_Share_become_2, cc_Share_become_3, lay_27, lay_28, lay_30, lay_31, lay_32, lay_43, lay_44, lay_46, lay_49, lay_60, Option.toList_some, Option.toList_none, List.cons_append, List.nil_append, e_istore_6, e_jsr, e_iload_6, k_24, e_icmp_ge, g_73_26, g_131_1, cc_Day_takeLoads_0, cc_Day_takeLoads_1, cc_Day_takeLoads_2, cc_Day_takeLoads_3, e_if_eq, g_64_26, cc_Circuit_settle_0, cc_Circuit_settle_1, cc_Circuit_settle_2, cc_Circuit_settle_3, e_iload_5, k_1, g_65_26, cc_Share_isBelow_0, cc_Share_isBelow_1, cc_Share_isBelow_2, cc_Share_isBelow_3, e_if_ne, e_goto, e_iinc_6, e_zret0, e_zret1, eq_self, le24 hi, cc_Day_takeLoads_0 (Or.inl rfl) hi hcp.2.2.1 hT.1 (fun n hn => (hcp.2.2.2.2 n hn).1), hany, ha, cc_Circuit_settle_0 k4, cc1, cc_Share_isBelow_0 lay_32 lay_27, hcmp, hlt, not_true_eq_false, not_false_eq_true, if_true, if_false, true_or, or_true, false_or, or_false, true_and, and_true, false_and, and_false, and_self, or_self, reduceIte, Bool.false_eq_true, i10, i01, e_inc1]
        · left
          obtain ⟨e, e1, e2⟩ := d_low_le hd1 (24 - (i + 1))
          rw [show i + 1 + (24 - (i + 1)) = 24 by omega] at e1
          refine ⟨p2, r2, hd b_69_15 ?_, hf2, hg2, Or.inr ⟨e.1, e.2.1, e.2.2, v, e1, z1, e2, by grind⟩⟩
          rw [j5, e1]
          simp only [b_69_e, b_69_73, b_69_79, k_0, e_istore_5, e_kpi, e_kpr, e_kpl, e_kpd, e_aloadr_0, g_75_26, e_lload_1, e_lload_3, cc_Share_become_0, cc_Share_become_1, cc_Share_become_2, cc_Share_become_3, lay_27, lay_28, lay_30, lay_31, lay_32, lay_43, lay_44, lay_46, lay_49, lay_60, Option.toList_some, Option.toList_none, List.cons_append, List.nil_append, e_istore_6, e_jsr, e_iload_6, k_24, e_icmp_ge, g_73_26, g_131_1, cc_Day_takeLoads_0, cc_Day_takeLoads_1, cc_Day_takeLoads_2, cc_Day_takeLoads_3, e_if_eq, g_64_26, cc_Circuit_settle_0, cc_Circuit_settle_1, cc_Circuit_settle_2, cc_Circuit_settle_3, e_iload_5, k_1, g_65_26, cc_Share_isBelow_0, cc_Share_isBelow_1, cc_Share_isBelow_2, cc_Share_isBelow_3, e_if_ne, e_goto, e_iinc_6, e_zret0, e_zret1, eq_self, le24 hi, cc_Day_takeLoads_0 (Or.inl rfl) hi hcp.2.2.1 hT.1 (fun n hn => (hcp.2.2.2.2 n hn).1), hany, ha, cc_Circuit_settle_0 k4, cc1, cc_Share_isBelow_0 lay_32 lay_27, hcmp, hlt, Option.isSome_some, not_true_eq_false, not_false_eq_true, if_true, if_false, true_or, or_true, false_or, or_false, true_and, and_true, false_and, and_false, and_self, or_self, reduceIte, Bool.false_eq_true, i10, i01, e_inc1]
    · right
      have hd1 : d_low c (kL L off nt) nt (i + 1) = d_low c (kL L off nt) nt i := d_lowT_none (fun k hk => by rw [hth]; exact anyB_f ha k hk)
      refine ⟨(tkl p 5 i nt, r, f), hd b_69_15 ?_, f1_tr f1_tkl j1, j2, j3, j4, by rw [hd1]; exact j5, by dsimp only; rw [hd1, tkl_ne (by decide) (by decide) (by decide), tkl_ne (by decide) (by decide) (by decide)]; exact j6⟩
      simp only [b_69_e, b_69_73, b_69_79, k_0, e_istore_5, e_kpi, e_kpr, e_kpl, e_kpd, e_aloadr_0, g_75_26, e_lload_1, e_lload_3, cc_Share_become_0, cc_Share_become_1, cc_Share_become_2, cc_Share_become_3, lay_27, lay_28, lay_30, lay_31, lay_32, lay_43, lay_44, lay_46, lay_49, lay_60, Option.toList_some, Option.toList_none, List.cons_append, List.nil_append, e_istore_6, e_jsr, e_iload_6, k_24, e_icmp_ge, g_73_26, g_131_1, cc_Day_takeLoads_0, cc_Day_takeLoads_1, cc_Day_takeLoads_2, cc_Day_takeLoads_3, e_if_eq, g_64_26, cc_Circuit_settle_0, cc_Circuit_settle_1, cc_Circuit_settle_2, cc_Circuit_settle_3, e_iload_5, k_1, g_65_26, cc_Share_isBelow_0, cc_Share_isBelow_1, cc_Share_isBelow_2, cc_Share_isBelow_3, e_if_ne, e_goto, e_iinc_6, e_zret0, e_zret1, eq_self, le24 hi, cc_Day_takeLoads_0 (Or.inl rfl) hi hcp.2.2.1 hT.1 (fun n hn => (hcp.2.2.2.2 n hn).1), hany, ha, not_true_eq_false, not_false_eq_true, if_true, if_false, true_or, or_true, false_or, or_false, true_and, and_true, false_and, and_false, and_self, or_self, reduceIte, Bool.false_eq_true, i10, i01, e_inc1]
  · obtain ⟨p, r, f⟩ := s
    obtain ⟨j1, j2, j3, j4, j5, j6⟩ := hj
    dsimp only at j1 j2 j3 j4 j5 j6 ⊢
    refine ⟨p, r, hd b_69_15 ?_, j1, j2, Or.inl j6⟩
    rw [j5]
    simp only [b_69_e, b_69_73, b_69_79, k_0, e_istore_5, e_kpi, e_kpr, e_kpl, e_kpd, e_aloadr_0, g_75_26, e_lload_1, e_lload_3, cc_Share_become_0, cc_Share_become_1, cc_Share_become_2, cc_Share_become_3, lay_27, lay_28, lay_30, lay_31, lay_32, lay_43, lay_44, lay_46, lay_49, lay_60, Option.toList_some, Option.toList_none, List.cons_append, List.nil_append, e_istore_6, e_jsr, e_iload_6, k_24, e_icmp_ge, g_73_26, g_131_1, cc_Day_takeLoads_0, cc_Day_takeLoads_1, cc_Day_takeLoads_2, cc_Day_takeLoads_3, e_if_eq, g_64_26, cc_Circuit_settle_0, cc_Circuit_settle_1, cc_Circuit_settle_2, cc_Circuit_settle_3, e_iload_5, k_1, g_65_26, cc_Share_isBelow_0, cc_Share_isBelow_1, cc_Share_isBelow_2, cc_Share_isBelow_3, e_if_ne, e_goto, e_iinc_6, e_zret0, e_zret1, eq_self, le2424, not_true_eq_false, not_false_eq_true, if_true, if_false, true_or, or_true, false_or, or_false, true_and, and_true, false_and, and_false, and_self, or_self, reduceIte, Bool.false_eq_true, i10, i01, e_zret bzo]
end Lw2
