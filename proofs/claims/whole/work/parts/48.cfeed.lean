/-! THE CLASS'S CELLS AND THE CIRCUIT WITHOUT CELLS: who feeds -/
def cS (q : Nat → Nat → Int32) (c : qC) : Prop := q 34 5 = nI (q_m c) ∧ q_m c ≤ 5 ∧ (∀ j, j < q_m c → bd (q 36 j) ∧ qI (cP q j) = q_P c j ∧ q 35 j = nI (q_nu c j) ∧ q_nu c j < 5) ∧ ∀ i k, i < k → k < q_m c → q_P c i < q_P c k
def cR (q : Nat → Nat → Int32) (c : qC) : Prop := (qI (q 2 2).toInt = c.1.1 ∧ qI (q 2 1).toInt = c.1.2.1 ∧ qI (q 2 3).toInt = c.1.2.2) ∧ (q 2 2).toInt.natAbs ≤ 2000 ∧ (q 2 1).toInt.natAbs ≤ 20 ∧ (q 2 3).toInt.natAbs ≤ 3000 ∧ (q 2 2).toInt ≤ (q 2 3).toInt ∧ 0 ≤ (q 2 1).toInt
def cL (q : Nat → Nat → Int32) (l : qL) : Prop := ∀ n, n < 5 → cTh q n = q_th l n ∧ (q_th l n = true → bd (q 41 n) ∧ qI (cY q n) = q_y l n) ∧ cA q n = q_am l n ∧ (q_am l n).natAbs ≤ 100000 ∧ (q_th l n = false → q_am l n = 0)
theorem c_CB {q : Nat → Nat → Int32} {c : qC} {l : qL} (hS : cS q c) (hR : cR q c) (hL : cL q l) : CB q (q_m c) := by
  obtain ⟨s1, s2, s3, s4⟩ := hS
  obtain ⟨r0, r1, r2, r3, r4, r5⟩ := hR
  refine ⟨s1, s2, fun n hn => (s3 n hn).1, fun i j hi hj => ?_, fun n hn hc => ?_, fun n hn => ?_, r1, r2, r3⟩
  · rw [← qI_lt, (s3 i (by omega)).2.1, (s3 j hj).2.1]
    exact s4 i j hi hj
  · obtain ⟨l1, l2, _⟩ := hL n hn
    exact (l2 (by rw [← l1]; exact hc)).1
  · obtain ⟨_, _, l3, l4, _⟩ := hL n hn
    show (cA q n).natAbs ≤ _
    rw [l3]; exact l4
theorem c_P {q : Nat → Nat → Int32} {c : qC} (hS : cS q c) : ∀ i, i < q_m c → qP q i = q_P c i := fun i hi => (hS.2.2.1 i hi).2.1
theorem c_a {q : Nat → Nat → Int32} {l : qL} (hL : cL q l) : ∀ n, n < 5 → qa q n = q_a l n := fun n hn => by
  obtain ⟨l1, l2, l3, l4, l5⟩ := hL n hn
  unfold qa q_a
  rw [l1, l3]
  split
  · rfl
  · rename_i h; rw [l5 (by simpa using h), qI_0]
theorem c_y {q : Nat → Nat → Int32} {l : qL} (hL : cL q l) : ∀ n, n < 5 → ¬ q_a l n = 0 → qy q n = q_y l n := fun n hn h => by
  obtain ⟨l1, l2, l3, l4, l5⟩ := hL n hn
  cases ht : q_th l n with
  | true => exact (l2 ht).2
  | false => exfalso; apply h; unfold q_a; rw [l5 ht, qI_0]
theorem sumI_cg {f g : Nat → Int} : ∀ {n : Nat}, (∀ i, i < n → f i = g i) → sumI f n = sumI g n := by
  intro n
  induction n with
  | zero => intro _; rfl
  | succ n ih => intro h; rw [sumI, sumI, ih (fun i hi => h i (by omega)), h n (by omega)]
theorem c_sum {q : Nat → Nat → Int32} {l : qL} (hL : cL q l) : sumI (cA q) 5 = sumI (q_am l) 5 := sumI_cg (fun n hn => (hL n hn).2.2.1)
theorem sumR_a0 {q : Nat → Nat → Int32} {l : qL} (hL : cL q l) : sumR (qa q) 5 = sumR (q_a l) 5 := sumR_congr (c_a hL)
theorem cF_loi {q : Nat → Nat → Int32} {ml : Nat → Nat → Int64} {m j : Nat} (hj : j < m) : cF (loi q ml m m) j = (cF q j && !(decide (ml 38 j = 0) && (sgB q ml m || !decide (frN q m = some j)))) := by
  have e : loi q ml m m 37 j = if (37 = 37 ∧ j < m ∧ ml 38 j = 0 ∧ (sgB q ml m = true ∨ ¬ frN q m = some j)) then 0 else q 37 j := rfl
  have d : cF (loi q ml m m) j = decide (¬ loi q ml m m 37 j = 0) := rfl
  have d2 : cF q j = decide (¬ q 37 j = 0) := rfl
  rw [d, d2, e]
  by_cases h1 : ml 38 j = 0
  · by_cases h2 : sgB q ml m = true
    · rw [if_pos ⟨rfl, hj, h1, Or.inl h2⟩]; simp [h1, h2]
    · by_cases h3 : frN q m = some j
      · rw [if_neg (fun z => by rcases z.2.2.2 with z | z <;> contradiction)]; simp [h1, h2, h3]
      · rw [if_pos ⟨rfl, hj, h1, Or.inr h3⟩]; simp [h1, h2, h3]
  · rw [if_neg (fun z => h1 z.2.2.1)]; simp [h1]
theorem sgB_iff {q : Nat → Nat → Int32} {ml : Nat → Nat → Int64} : ∀ {i : Nat}, sgB q ml i = true ↔ ∃ j, j < i ∧ cF q j = true ∧ 0 < ml 38 j := by
  intro i
  induction i with
  | zero => simp [sgB]
  | succ i ih =>
    rw [sgB, Bool.or_eq_true, ih, Bool.and_eq_true, decide_eq_true_eq]
    constructor
    · rintro (⟨j, h1, h2, h3⟩ | ⟨h2, h3⟩)
      · exact ⟨j, by omega, h2, h3⟩
      · exact ⟨i, by omega, h2, h3⟩
    · rintro ⟨j, h1, h2, h3⟩
      by_cases hj : j = i
      · subst hj; exact Or.inr ⟨h2, h3⟩
      · exact Or.inl ⟨j, by omega, h2, h3⟩
theorem frN_q {q : Nat → Nat → Int32} {S : Nat → Bool} {nu : Nat → Nat} : ∀ {i : Nat}, (∀ j, j < i → cF q j = S j ∧ q 35 j = nI (nu j) ∧ nu j < 5) → frN q i = q_fr S nu i := by
  intro i
  induction i with
  | zero => intro _; rfl
  | succ i ih =>
    intro h
    have e := ih (fun j hj => h j (by omega))
    rw [frN, q_fr, e, (h i (by omega)).1]
    cases hq : q_fr S nu i with
    | none => rfl
    | some f =>
      have hf := (q_fr_some hq).1
      dsimp only
      simp only [(h i (by omega)).2.1, (h f (by omega)).2.1, leN (h f (by omega)).2.2 (h i (by omega)).2.2]
theorem rat_sgn {u d : Int} {g : Rat} (hd : 0 < d) (h : qI u = g * qI d) : (0 < u ↔ 0 < g) ∧ (u = 0 ↔ g = 0) ∧ (0 ≤ u ↔ 0 ≤ g) := by
  have hD : 0 < qI d := qI_lt.mpr hd
  have k1 : 0 < u ↔ 0 < g := by
    have : (0 < u) ↔ 0 < qI u := qI_lt.symm
    rw [this, h]
    constructor
    · intro q
      rcases (show 0 < g ∨ g ≤ 0 by grind) with z | z
      · exact z
      · have := Rat.mul_le_mul_of_nonneg_right (c := qI d) z (by grind); grind
    · intro q
      have := Rat.mul_lt_mul_of_pos_right q hD; grind
  have k2 : u = 0 ↔ g = 0 := by
    have : (u = 0) ↔ qI u = 0 := qI_eq.symm
    rw [this, h]
    constructor
    · intro q
      rcases Rat.mul_eq_zero.mp q with z | z
      · exact z
      · grind
    · intro q; rw [q]; grind
  refine ⟨k1, k2, ?_⟩
  constructor
  · intro q
    rcases (show 0 < u ∨ u = 0 by omega) with z | z
    · have := k1.mp z; grind
    · have := k2.mp z; grind
  · intro q
    rcases (show 0 < g ∨ g = 0 by grind) with z | z
    · have := k1.mpr z; omega
    · have := k2.mpr z; omega
/-- a share in two cells -/
def fr2 (u d : Int64) (r : Rat) (B : Nat) : Prop := ∃ a b : Int, u = Int64.ofInt a ∧ d = Int64.ofInt b ∧ 0 < b ∧ b ≤ 200000 ∧ a.natAbs ≤ B ∧ qI a = r * qI b
theorem c_feed {q : Nat → Nat → Int32} {c : qC} {l : qL} (ml : Nat → Nat → Int64) (hS : cS q c) (hR : cR q c) (hL : cL q l) (hm : 0 < q_m c) (hs : 0 ≤ sumI (q_am l) 5) : ∀ j, j < q_m c → cF (ffI q ml (q_m c)) j = q_F c l j ∧ (q_F c l j = true → fr2 (ffJ q ml (q_m c) 38 j) (ffJ q ml (q_m c) 39 j) (q_g c l j) 20000000000) := by
  have hB := c_CB hS hR hL
  have hsR : 0 ≤ sumR (q_a l) 5 := by rw [sumR_qa]; exact qI_le.mpr hs
  obtain ⟨k1, k2⟩ := q_S_ok hm hS.2.2.2 hsR
  have hne : ∀ a b, ¬ a = 37 → saF q (q_m c) a b = q a b := fun a b h => saF_ne h
  obtain ⟨e1, e2, e3⟩ := row_eq hne
  have hall : ∀ j, j < q_m c → cF (saF q (q_m c)) j = true := fun j hj => by
    have : saF q (q_m c) 37 j = 1 := by unfold saF; rw [if_pos ⟨rfl, hj⟩]
    unfold cF
    rw [this]
    decide
  have hE := ffL_end (q_m c) (saF q (q_m c)) ml (CB_37 hB hne) (by rw [e2, sumR_a0 hL]; exact hsR) ⟨⟨0, hm, hall 0 hm⟩, fun j hj h => by rw [hall j hj] at h; cases h⟩ cntB_le
  rw [e1, e2, e3] at hE
  have hne2 : ∀ a b, ¬ a = 37 → (ffL (q_m c) (q_m c) (saF q (q_m c)) ml).1 a b = q a b := fun a b h => by rw [ffL_ne h]; exact saF_ne h
  unfold ffI ffJ
  generalize ffL (q_m c) (q_m c) (saF q (q_m c)) ml = f at *
  obtain ⟨f1, f2⟩ := row_eq hne2
  have hBf := CB_37 hB hne2
  have gcg : ∀ j, j < q_m c → gS (qP q) (cF f.1) (q_m c) 5 (qa q) (qy q) j = gS (q_P c) (cF f.1) (q_m c) 5 (q_a l) (q_y l) j := fun j hj => gS_cg (c_P hS) (c_a hL) (c_y hL) hj
  have hI := gInv_cg (c_P hS) (c_a hL) (c_y hL) hE.1
  have hSe := end_one hS.2.2.2 hI (fun j hj h => by rw [← gcg j hj]; exact (hE.2 j hj h).1) k1 k2
  have hfr : ∀ j, j < q_m c → cF f.1 j = true → f.2 38 j = Int64.ofInt (gUp f.1 (q_m c) j) ∧ f.2 39 j = Int64.ofInt (gDn f.1 (q_m c) j) ∧ 0 < gDn f.1 (q_m c) j ∧ (gDn f.1 (q_m c) j).natAbs ≤ 40000 ∧ (gUp f.1 (q_m c) j).natAbs ≤ 20000000000 ∧ qI (gUp f.1 (q_m c) j) = q_g c l j * qI (gDn f.1 (q_m c) j) := fun j hj h => by
    obtain ⟨_, g2, g3⟩ := hE.2 j hj h
    obtain ⟨b1, b2⟩ := gUp_bd hBf hj
    obtain ⟨p1, p2⟩ := gUp_q hBf.2.2.2.1 hj
    refine ⟨g2, g3, p2, b2, b1, ?_⟩
    rw [p1, f1, f2.1, f2.2, gcg j hj]
    unfold q_g
    rw [gS_congr hSe hj]
  have hsg : sgB f.1 f.2 (q_m c) = q_some c l := by
    rw [Bool.eq_iff_iff, sgB_iff]
    unfold q_some
    rw [anyB_iff]
    constructor
    · rintro ⟨j, h1, h2, h3⟩
      obtain ⟨g1, _, g3, _, g5, g6⟩ := hfr j h1 h2
      rw [g1, k0i64, i64_lt (by decide) (by omega)] at h3
      exact ⟨j, h1, by rw [← hSe j h1, h2, Bool.true_and, decide_eq_true_eq]; exact (rat_sgn g3 g6).1.mp h3⟩
    · rintro ⟨j, h1, h2⟩
      rw [Bool.and_eq_true, decide_eq_true_eq, ← hSe j h1] at h2
      obtain ⟨g1, _, g3, _, g5, g6⟩ := hfr j h1 h2.1
      refine ⟨j, h1, h2.1, ?_⟩
      rw [g1, k0i64, i64_lt (by decide) (by omega)]
      exact (rat_sgn g3 g6).1.mpr h2.2
  have hfn : frN f.1 (q_m c) = q_fr (q_S c l) (q_nu c) (q_m c) := frN_q (fun j hj => ⟨hSe j hj, by rw [hne2 35 j (by decide)]; exact (hS.2.2.1 j hj).2.2⟩)
  intro j hj
  rw [cF_loi hj, hsg, hfn, hSe j hj]
  unfold q_F
  cases hSj : q_S c l j with
  | false => exact ⟨rfl, fun h => by cases h⟩
  | true =>
    obtain ⟨g1, g2, g3, g4, g5, g6⟩ := hfr j hj (by rw [hSe j hj]; exact hSj)
    have hnn := k2 j hj hSj
    obtain ⟨z1, z2, z3⟩ := rat_sgn g3 g6
    have hz : (f.2 38 j = 0) ↔ q_g c l j = 0 := by
      rw [g1, k0i64, i64_eq (by omega) (by decide)]
      exact z2
    refine ⟨?_, fun _ => ⟨_, _, g1, g2, g3, by omega, g5, g6⟩⟩
    by_cases h0 : q_g c l j = 0
    · have : ¬ 0 < q_g c l j := by grind
      simp only [hz.mpr h0, this, decide_true, decide_false, Bool.true_and, Bool.false_or]
      cases q_some c l <;> simp
    · have h1 : 0 < q_g c l j := by grind
      have h2 : ¬ f.2 38 j = 0 := fun z => h0 (hz.mp z)
      simp [h1, h2]
