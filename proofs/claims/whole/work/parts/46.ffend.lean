/-! THE END OF findFeeding'S ROUNDS -/
theorem prvi_congr {T U : Nat → Bool} : ∀ {j : Nat}, (∀ i, i < j → T i = U i) → prvi T j = prvi U j := by
  intro j
  induction j with
  | zero => intro _; rfl
  | succ j ih => intro h; rw [prvi, prvi, h j (by omega), ih (fun i hi => h i (by omega))]
theorem fsti_congr {T U : Nat → Bool} : ∀ {k i : Nat}, (∀ j, i ≤ j → j < i + k → T j = U j) → fsti T i k = fsti U i k := by
  intro k
  induction k with
  | zero => intro i _; rfl
  | succ k ih => intro i h; rw [fsti, fsti, h i (by omega) (by omega), ih (fun j h1 h2 => h j (by omega) (by omega))]
theorem nxti_congr {T U : Nat → Bool} {m j : Nat} (h : ∀ i, i < m → T i = U i) : nxti T m j = nxti U m j := by
  unfold nxti
  exact fsti_congr (fun i h1 h2 => h i (by omega))
section Cg
variable {P : Nat → Rat} {m N : Nat} {a y : Nat → Rat}
theorem gS_congr {T U : Nat → Bool} (h : ∀ i, i < m → T i = U i) {j : Nat} (hj : j < m) : gS P T m N a y j = gS P U m N a y j := by
  unfold gS ga
  rw [nxti_congr h, prvi_congr (fun i hi => h i (by omega))]
theorem vS_congr {T U : Nat → Bool} (h : ∀ i, i < m → T i = U i) {j : Nat} (hj : j < m) : vS P T m N a y j = vS P U m N a y j := by
  unfold vS om Lj Rj
  rw [nxti_congr h, prvi_congr (fun i hi => h i (by omega)), h j hj]
theorem gInv_congr {T U : Nat → Bool} (h : ∀ i, i < m → T i = U i) (hI : gInv P m N a y T) : gInv P m N a y U := by
  refine ⟨?_, fun j hj hU => ?_⟩
  · obtain ⟨j, hj, hT⟩ := hI.1
    exact ⟨j, hj, by rw [← h j hj]; exact hT⟩
  · rw [← vS_congr h hj]
    exact hI.2 j hj (by rw [h j hj]; exact hU)
end Cg
theorem wT_bd {th : Bool} {y A a : Int} {l r : Option Int} (hA : A.natAbs ≤ 100000) (hy : th = true → 0 ≤ y ∧ y ≤ 200) (ha : 0 ≤ a ∧ a ≤ 200) (hl : ∀ p, l = some p → 0 ≤ p ∧ p ≤ 200) (hr : ∀ p, r = some p → 0 ≤ p ∧ p ≤ 200) : (wT th y A a l r).natAbs ≤ 100000 * 200 * 200 := by
  have h1 : (lef a l).natAbs ≤ 200 := by
    cases l with
    | none => show (1 : Int).natAbs ≤ 200; decide
    | some p => have := hl p rfl; show (a - p).natAbs ≤ 200; omega
  have h2 : (rig a r).natAbs ≤ 200 := by
    cases r with
    | none => show (1 : Int).natAbs ≤ 200; decide
    | some p => have := hr p rfl; show (p - a).natAbs ≤ 200; omega
  unfold wT
  split
  · rename_i hth
    have hy := hy hth
    split
    · refine mul_bd (mul_bd hA h2) ?_
      cases l with
      | none => show (1 : Int).natAbs ≤ 200; decide
      | some p => have := hl p rfl; show (max 0 (y - p)).natAbs ≤ 200; omega
    · split
      · refine mul_bd (mul_bd hA h1) ?_
        cases r with
        | none => show (1 : Int).natAbs ≤ 200; decide
        | some p => have := hr p rfl; show (max 0 (p - y)).natAbs ≤ 200; omega
      · exact mul_bd (mul_bd hA h1) h2
  · exact Nat.zero_le _
theorem gUp_bd {mi : Nat → Nat → Int32} {m j : Nat} (h : CB mi m) (hj : j < m) : (gUp mi m j).natAbs ≤ 20000000000 ∧ (gDn mi m j).natAbs ≤ 40000 := by
  obtain ⟨h1, h2, h3, h4, h5, h6, h7, h8, h9⟩ := h
  have hl : ∀ p, (prvi (cF mi) j).map (cP mi) = some p → 0 ≤ p ∧ p ≤ 200 := fun p hp => by
    cases q : prvi (cF mi) j with
    | none => rw [q] at hp; cases hp
    | some k => rw [q] at hp; cases hp; have := (prvi_some q).1; exact h3 k (by omega)
  have hr : ∀ p, (nxti (cF mi) m j).map (cP mi) = some p → 0 ≤ p ∧ p ≤ 200 := fun p hp => by
    cases q : nxti (cF mi) m j with
    | none => rw [q] at hp; cases hp
    | some k => rw [q] at hp; cases hp; have := nxti_gt q; exact h3 k (by omega)
  have ha := h3 j hj
  constructor
  · have := sumI_bd (f := fun n => wT (cTh mi n) (cY mi n) (cA mi n) (cP mi j) ((prvi (cF mi) j).map (cP mi)) ((nxti (cF mi) m j).map (cP mi))) (k := 5) (B := 100000 * 200 * 200) (fun n hn => wT_bd (h6 n hn) (h5 n hn) ha hl hr)
    unfold gUp
    omega
  · have b1 : (lef (cP mi j) ((prvi (cF mi) j).map (cP mi))).natAbs ≤ 200 := by
      cases q : (prvi (cF mi) j).map (cP mi) with
      | none => show (1 : Int).natAbs ≤ 200; decide
      | some p => have := hl p q; unfold bd at ha; show (cP mi j - p).natAbs ≤ 200; unfold cP; omega
    have b2 : (rig (cP mi j) ((nxti (cF mi) m j).map (cP mi))).natAbs ≤ 200 := by
      cases q : (nxti (cF mi) m j).map (cP mi) with
      | none => show (1 : Int).natAbs ≤ 200; decide
      | some p => have := hr p q; unfold bd at ha; show (p - cP mi j).natAbs ≤ 200; unfold cP; omega
    exact mul_bd b1 b2
theorem wgh_38 {mi : Nat → Nat → Int32} {ml : Nat → Nat → Int64} {m j : Nat} (hj : j < m) (hc : cF mi j = true) : wgh mi ml m m 38 j = Int64.ofInt (gUp mi m j) ∧ wgh mi ml m m 39 j = Int64.ofInt (gDn mi m j) := by
  unfold wgh
  constructor
  · rw [if_pos ⟨rfl, hj, hc⟩]
  · rw [if_neg (by omega), if_pos ⟨rfl, hj, hc⟩]
theorem wgh_neg {mi : Nat → Nat → Int32} {ml : Nat → Nat → Int64} {m j : Nat} (h : CB mi m) (hj : j < m) (hc : cF mi j = true) : wgh mi ml m m 38 j < 0 ↔ gS (qP mi) (cF mi) m 5 (qa mi) (qy mi) j < 0 := by
  have b := (gUp_bd h hj).1
  rw [(wgh_38 hj hc).1, ← (gUp_sgn h.2.2.2.1 hj).1, k0i64]
  exact i64_lt (by omega) (by decide)
theorem lotB_iff {mi : Nat → Nat → Int32} {ml : Nat → Nat → Int64} : ∀ {i : Nat}, lotB mi ml i = true ↔ ∃ j, j < i ∧ cF mi j = true ∧ ml 38 j < 0 := by
  intro i
  induction i with
  | zero => simp [lotB]
  | succ i ih =>
    rw [lotB, Bool.or_eq_true, ih, Bool.and_eq_true, decide_eq_true_eq]
    constructor
    · rintro (⟨j, h1, h2, h3⟩ | ⟨h2, h3⟩)
      · exact ⟨j, by omega, h2, h3⟩
      · exact ⟨i, by omega, h2, h3⟩
    · rintro ⟨j, h1, h2, h3⟩
      by_cases hj : j = i
      · subst hj; exact Or.inr ⟨h2, h3⟩
      · exact Or.inl ⟨j, by omega, h2, h3⟩
theorem lot_cF {mi : Nat → Nat → Int32} {ml : Nat → Nat → Int64} {m j : Nat} (hj : j < m) : cF (lot mi ml m) j = (cF mi j && decide (¬ ml 38 j < 0)) := by
  unfold cF lot
  by_cases h1 : mi 37 j = 0
  · simp [h1]
  · by_cases h2 : ml 38 j < 0
    · have : (37 = 37 ∧ j < m ∧ cF mi j = true ∧ ml 38 j < 0) := ⟨rfl, hj, by simp [cF, h1], h2⟩
      rw [if_pos this]
      simp [h2]
    · rw [if_neg (fun q => h2 q.2.2.2)]
      simp [h2]
theorem row_eq {mi mj : Nat → Nat → Int32} (h : ∀ a b, ¬ a = 37 → mj a b = mi a b) : qP mj = qP mi ∧ qa mj = qa mi ∧ qy mj = qy mi := by
  refine ⟨?_, ?_, ?_⟩
  · funext j; unfold qP cP; rw [h 36 j (by decide)]
  · funext n; unfold qa cTh cA; rw [h 40 n (by decide), h 42 n (by decide)]
  · funext n; unfold qy cY; rw [h 41 n (by decide)]
theorem CB_37 {mi mj : Nat → Nat → Int32} {m : Nat} (h : CB mi m) (he : ∀ a b, ¬ a = 37 → mj a b = mi a b) : CB mj m := CB_of h (fun n hn => by rw [he 42 n (by decide)]; exact h.2.2.2.2.2.1 n hn) (fun a b h1 _ => he a b h1)
theorem qP_lt {mi : Nat → Nat → Int32} {m : Nat} (h : CB mi m) : ∀ i k, i < k → k < m → qP mi i < qP mi k := fun i k h1 h2 => qI_lt.mpr (h.2.2.2.1 i k h1 h2)
/-- the rounds' end -/
theorem ffL_end {m : Nat} : ∀ (k : Nat) (mi : Nat → Nat → Int32) (ml : Nat → Nat → Int64), CB mi m → 0 ≤ sumR (qa mi) 5 → gInv (qP mi) m 5 (qa mi) (qy mi) (cF mi) → cntB (cF mi) m ≤ k →
    gInv (qP mi) m 5 (qa mi) (qy mi) (cF (ffL m k mi ml).1) ∧ (∀ j, j < m → cF (ffL m k mi ml).1 j = true → 0 ≤ gS (qP mi) (cF (ffL m k mi ml).1) m 5 (qa mi) (qy mi) j ∧ (ffL m k mi ml).2 38 j = Int64.ofInt (gUp (ffL m k mi ml).1 m j) ∧ (ffL m k mi ml).2 39 j = Int64.ofInt (gDn (ffL m k mi ml).1 m j)) := by
  intro k
  induction k with
  | zero =>
    intro mi ml hB hs hI hc
    exfalso
    obtain ⟨j, hj, hT⟩ := hI.1
    have := cntB_pos hj hT
    omega
  | succ k ih =>
    intro mi ml hB hs hI hc
    rw [ffL]
    by_cases hb : lotB mi (wgh mi ml m m) m = true
    · rw [if_pos hb]
      have hne : ∀ a b, ¬ a = 37 → lot mi (wgh mi ml m m) m a b = mi a b := fun a b h => lot_ne h
      obtain ⟨e1, e2, e3⟩ := row_eq hne
      have hfl : ∀ j, j < m → rndT (qP mi) m 5 (qa mi) (qy mi) (cF mi) j = cF (lot mi (wgh mi ml m m) m) j := by
        intro j hj
        rw [lot_cF hj]
        unfold rndT
        by_cases hcj : cF mi j = true
        · rw [hcj, Bool.true_and, Bool.true_and]
          have := wgh_neg (ml := ml) hB hj hcj
          by_cases hz : wgh mi ml m m 38 j < 0
          · have h2 := this.mp hz
            have : ¬ 0 ≤ gS (qP mi) (cF mi) m 5 (qa mi) (qy mi) j := by grind
            simp [hz, this]
          · have h2 : ¬ gS (qP mi) (cF mi) m 5 (qa mi) (qy mi) j < 0 := fun q => hz (this.mpr q)
            have : 0 ≤ gS (qP mi) (cF mi) m 5 (qa mi) (qy mi) j := by grind
            simp [hz, this]
        · have : cF mi j = false := by simpa using hcj
          rw [this, Bool.false_and, Bool.false_and]
      have hI2 := gInv_congr hfl (gInv_rnd (qP_lt hB) hs hI)
      have hlt : cntB (cF (lot mi (wgh mi ml m m) m)) m < cntB (cF mi) m := by
        obtain ⟨j, hj, h1, h2⟩ := lotB_iff.mp hb
        refine cntB_lt (fun i hi q => ?_) ⟨j, hj, h1, ?_⟩
        · rw [lot_cF hi, Bool.and_eq_true] at q; exact q.1
        · rw [lot_cF hj]; simp [h2]
      have := ih (lot mi (wgh mi ml m m) m) (wgh mi ml m m) (CB_37 hB hne) (by rw [e2]; exact hs) (by rw [e1, e2, e3]; exact hI2) (by omega)
      rw [e1, e2, e3] at this
      exact this
    · rw [if_neg hb]
      have hl : lot mi (wgh mi ml m m) m = mi := by
        funext a b
        unfold lot
        rw [if_neg (fun q => hb (lotB_iff.mpr ⟨b, q.2.1, q.2.2.1, q.2.2.2⟩))]
      rw [hl]
      refine ⟨hI, fun j hj hcj => ?_⟩
      obtain ⟨w1, w2⟩ := wgh_38 (ml := ml) hj hcj
      refine ⟨?_, w1, w2⟩
      have hz : ¬ wgh mi ml m m 38 j < 0 := fun q => hb (lotB_iff.mpr ⟨j, hj, hcj, q⟩)
      rw [wgh_neg hB hj hcj] at hz
      grind
