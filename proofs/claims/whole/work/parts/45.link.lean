/-! THE CELLS' NUMBERS ARE THE NETWORK'S -/
def gRo (a y : Rat) (r : Option Rat) : Rat := match r with
  | some q => if a < y ∧ y < q then (q - y) / (q - a) else 0
  | none => if a < y then 1 else 0
def gLo (a y : Rat) (l : Option Rat) : Rat := match l with
  | some p => if p < y ∧ y < a then (y - p) / (a - p) else 0
  | none => if y < a then 1 else 0
theorem gaR_o {P : Nat → Rat} {y : Rat} {j : Nat} {r : Option Nat} : gaR P y j r = gRo (P j) y (r.map P) := by cases r <;> rfl
theorem gaL_o {P : Nat → Rat} {y : Rat} {j : Nat} {l : Option Nat} : gaL P y j l = gLo (P j) y (l.map P) := by cases l <;> rfl
def qI (z : Int) : Rat := (z : Rat)
theorem qI_lt {a b : Int} : qI a < qI b ↔ a < b := Rat.intCast_lt_intCast
theorem qI_le {a b : Int} : qI a ≤ qI b ↔ a ≤ b := Rat.intCast_le_intCast
theorem qI_eq {a b : Int} : qI a = qI b ↔ a = b := Rat.intCast_inj
theorem qI_mul {a b : Int} : qI (a * b) = qI a * qI b := Rat.intCast_mul a b
theorem qI_sub {a b : Int} : qI (a - b) = qI a - qI b := Rat.intCast_sub a b
theorem qI_add {a b : Int} : qI (a + b) = qI a + qI b := Rat.intCast_add a b
theorem qI_0 : qI 0 = 0 := rfl
theorem qI_1 : qI 1 = 1 := rfl
theorem wT_r {A a y : Int} {r : Option Int} (hr : ∀ q, r = some q → a < q) (hy : a < y) : qI (rgw y r) = gRo (qI a) (qI y) (r.map qI) * qI (rig a r) := by
  have h1 : qI a < qI y := qI_lt.mpr hy
  cases r with
  | none =>
    show qI 1 = gRo (qI a) (qI y) none * qI 1
    unfold gRo
    dsimp only
    rw [if_pos h1, qI_1]; grind
  | some q =>
    have hq := hr q rfl
    have h2 : qI a < qI q := qI_lt.mpr hq
    show qI (max 0 (q - y)) = gRo (qI a) (qI y) (some (qI q)) * qI (q - a)
    unfold gRo
    dsimp only
    by_cases h3 : y < q
    · have h4 : qI y < qI q := qI_lt.mpr h3
      rw [if_pos ⟨h1, h4⟩, show max 0 (q - y) = q - y by omega, qI_sub, qI_sub]
      have : qI q - qI a ≠ 0 := by grind
      grind
    · have h4 : ¬ qI y < qI q := fun z => h3 (qI_lt.mp z)
      rw [if_neg (fun z => h4 z.2), show max 0 (q - y) = 0 by omega, qI_0]
      grind
theorem wT_l {A a y : Int} {l : Option Int} (hl : ∀ q, l = some q → q < a) (hy : y < a) : qI (lfw y l) = gLo (qI a) (qI y) (l.map qI) * qI (lef a l) := by
  have h1 : qI y < qI a := qI_lt.mpr hy
  cases l with
  | none =>
    show qI 1 = gLo (qI a) (qI y) none * qI 1
    unfold gLo
    dsimp only
    rw [if_pos h1, qI_1]; grind
  | some q =>
    have hq := hl q rfl
    have h2 : qI q < qI a := qI_lt.mpr hq
    show qI (max 0 (y - q)) = gLo (qI a) (qI y) (some (qI q)) * qI (a - q)
    unfold gLo
    dsimp only
    by_cases h3 : q < y
    · have h4 : qI q < qI y := qI_lt.mpr h3
      rw [if_pos ⟨h4, h1⟩, show max 0 (y - q) = y - q by omega, qI_sub, qI_sub]
      have : qI a - qI q ≠ 0 := by grind
      grind
    · have h4 : ¬ qI q < qI y := fun z => h3 (qI_lt.mp z)
      rw [if_neg (fun z => h4 z.1), show max 0 (y - q) = 0 by omega, qI_0]
      grind
theorem gRo_le {a y : Rat} {r : Option Rat} (h : y ≤ a) : gRo a y r = 0 := by
  unfold gRo
  split
  · rw [if_neg (by grind)]
  · rw [if_neg (by grind)]
theorem gLo_ge {a y : Rat} {l : Option Rat} (h : a ≤ y) : gLo a y l = 0 := by
  unfold gLo
  split
  · rw [if_neg (by grind)]
  · rw [if_neg (by grind)]
theorem wT_q {th : Bool} {y A a : Int} {l r : Option Int} (hl : ∀ p, l = some p → p < a) (hr : ∀ q, r = some q → a < q) : qI (wT th y A a l r) = (if th = true then qI A else 0) * (gRo (qI a) (qI y) (r.map qI) + gLo (qI a) (qI y) (l.map qI) + (if qI y = qI a then 1 else 0)) * qI (lef a l * rig a r) := by
  unfold wT
  by_cases hth : th = true
  · rw [if_pos hth, if_pos hth, qI_mul]
    by_cases h1 : y < a
    · have h2 : qI y < qI a := qI_lt.mpr h1
      rw [if_pos h1, qI_mul, qI_mul, wT_l (A := A) hl h1, gRo_le (show qI y ≤ qI a by grind), if_neg (show ¬ qI y = qI a by grind)]
      grind
    · by_cases h3 : a < y
      · have h2 : qI a < qI y := qI_lt.mpr h3
        rw [if_neg h1, if_pos h3, qI_mul, qI_mul, wT_r (A := A) hr h3, gLo_ge (show qI a ≤ qI y by grind), if_neg (show ¬ qI y = qI a by grind)]
        grind
      · have h4 : y = a := by omega
        subst h4
        rw [if_neg h1, if_neg h3, qI_mul, qI_mul, gRo_le (Rat.le_refl), gLo_ge (Rat.le_refl), if_pos rfl]
        grind
  · rw [if_neg hth, if_neg hth, qI_0]
    grind
theorem sumI_q {f : Nat → Int} : ∀ k, qI (sumI f k) = sumR (fun n => qI (f n)) k := by
  intro k
  induction k with
  | zero => rfl
  | succ k ih => rw [sumI, sumR, qI_add, ih]
def qP (mi : Nat → Nat → Int32) (j : Nat) : Rat := qI (cP mi j)
def qa (mi : Nat → Nat → Int32) (n : Nat) : Rat := if cTh mi n = true then qI (cA mi n) else 0
def qy (mi : Nat → Nat → Int32) (n : Nat) : Rat := qI (cY mi n)
theorem lef_pos {a : Int} {l : Option Int} (h : ∀ p, l = some p → p < a) : 0 < lef a l := by
  cases l with
  | none => exact Int.one_pos
  | some p => have := h p rfl; show 0 < a - p; omega
theorem rig_pos {a : Int} {r : Option Int} (h : ∀ q, r = some q → a < q) : 0 < rig a r := by
  cases r with
  | none => exact Int.one_pos
  | some p => have := h p rfl; show 0 < p - a; omega
theorem map_lt {mi : Nat → Nat → Int32} {m j : Nat} {T : Nat → Bool} (hP : ∀ i k, i < k → k < m → cP mi i < cP mi k) (hj : j < m) : (∀ p, (prvi T j).map (cP mi) = some p → p < cP mi j) ∧ ∀ q, (nxti T m j).map (cP mi) = some q → cP mi j < q := by
  constructor
  · intro p hp
    cases h : prvi T j with
    | none => rw [h] at hp; cases hp
    | some k => rw [h] at hp; cases hp; exact hP k j (prvi_some h).1 hj
  · intro q hq
    cases h : nxti T m j with
    | none => rw [h] at hq; cases hq
    | some k => rw [h] at hq; cases hq; have := nxti_gt h; exact hP j k this.1 this.2.1
theorem gUp_q {mi : Nat → Nat → Int32} {m j : Nat} (hP : ∀ i k, i < k → k < m → cP mi i < cP mi k) (hj : j < m) : qI (gUp mi m j) = gS (qP mi) (cF mi) m 5 (qa mi) (qy mi) j * qI (gDn mi m j) ∧ 0 < gDn mi m j := by
  obtain ⟨hl, hr⟩ := map_lt (T := cF mi) hP hj
  constructor
  · unfold gUp gS
    rw [sumI_q]
    have e : ∀ k, sumR (fun n => qI (wT (cTh mi n) (cY mi n) (cA mi n) (cP mi j) ((prvi (cF mi) j).map (cP mi)) ((nxti (cF mi) m j).map (cP mi)))) k = sumR (fun n => qa mi n * ga (qP mi) (cF mi) m (qy mi n) j) k * qI (gDn mi m j) := by
      intro k
      induction k with
      | zero => simp only [sumR]; grind
      | succ k ih =>
        rw [sumR, sumR, ih, wT_q hl hr]
        unfold ga
        rw [gaR_o, gaL_o, Option.map_map, Option.map_map]
        have e1 : (qI ∘ cP mi) = qP mi := rfl
        rw [e1]
        show _ = (_ + qa mi k * (gRo (qP mi j) (qy mi k) ((nxti (cF mi) m j).map (qP mi)) + gLo (qP mi j) (qy mi k) ((prvi (cF mi) j).map (qP mi)) + (if qy mi k = qP mi j then 1 else 0))) * qI (gDn mi m j)
        unfold qa gDn
        show _ + (if cTh mi k = true then qI (cA mi k) else 0) * (gRo (qP mi j) (qy mi k) ((nxti (cF mi) m j).map (qP mi)) + gLo (qP mi j) (qy mi k) ((prvi (cF mi) j).map (qP mi)) + (if qy mi k = qP mi j then 1 else 0)) * _ = _
        grind
    exact e 5
  · exact Int.mul_pos (lef_pos hl) (rig_pos hr)
theorem gUp_sgn {mi : Nat → Nat → Int32} {m j : Nat} (hP : ∀ i k, i < k → k < m → cP mi i < cP mi k) (hj : j < m) : (gUp mi m j < 0 ↔ gS (qP mi) (cF mi) m 5 (qa mi) (qy mi) j < 0) ∧ (gUp mi m j = 0 ↔ gS (qP mi) (cF mi) m 5 (qa mi) (qy mi) j = 0) := by
  obtain ⟨h1, h2⟩ := gUp_q hP hj
  have h3 : 0 < qI (gDn mi m j) := qI_lt.mpr h2
  generalize gS (qP mi) (cF mi) m 5 (qa mi) (qy mi) j = g at *
  have h0 : (gUp mi m j < 0) ↔ qI (gUp mi m j) < 0 := qI_lt.symm
  have h00 : (gUp mi m j = 0) ↔ qI (gUp mi m j) = 0 := qI_eq.symm
  rw [h0, h00, h1]
  generalize qI (gDn mi m j) = D at *
  constructor
  · constructor
    · intro q
      rcases (show g < 0 ∨ 0 ≤ g by grind) with z | z
      · exact z
      · have := Rat.mul_nonneg z (show 0 ≤ D by grind); grind
    · intro q
      have := Rat.mul_lt_mul_of_pos_right q h3; grind
  · constructor
    · intro q
      rcases Rat.mul_eq_zero.mp q with z | z
      · exact z
      · grind
    · intro q; rw [q]; grind
