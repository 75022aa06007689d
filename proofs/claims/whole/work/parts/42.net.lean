/-! THE NETWORK OF ALL STATIONS THAT ARE IN, FOR ONE LOAD AT y -/
def Lj (T : Nat → Bool) (j : Nat) : Option Nat := if T j = true then some j else prvi T j
def Rj (T : Nat → Bool) (m j : Nat) : Option Nat := if T j = true then some j else nxti T m j
theorem nxti_rec {T : Nat → Bool} {m j : Nat} : nxti T m j = if j + 1 < m then (if T (j + 1) = true then some (j + 1) else nxti T m (j + 1)) else none := by
  unfold nxti
  by_cases h : j + 1 < m
  · rw [if_pos h, show m - (j + 1) = (m - (j + 1 + 1)) + 1 by omega, fsti]
  · rw [if_neg h, show m - (j + 1) = 0 by omega, fsti]
theorem nxti_gt {T : Nat → Bool} {m j q : Nat} (h : nxti T m j = some q) : j < q ∧ q < m ∧ T q = true := by
  have := fsti_some h
  exact ⟨by omega, by omega, this.2.2.1⟩
theorem Rj_ge {T : Nat → Bool} {m j q : Nat} (hj : j < m) (h : Rj T m j = some q) : j ≤ q ∧ q < m := by
  unfold Rj at h
  split at h
  · cases h; omega
  · have := nxti_gt h; omega
theorem Lj_le {T : Nat → Bool} {j q : Nat} (h : Lj T j = some q) : q ≤ j := by
  unfold Lj at h
  split at h
  · cases h; omega
  · have := (prvi_some h).1; omega
/-- volts lost at node j by a load of 1 at y -/
def om (P : Nat → Rat) (T : Nat → Bool) (m : Nat) (y : Rat) (j : Nat) : Rat := gq ((Lj T j).map P) ((Rj T m j).map P) (P j) y
def beR (P : Nat → Rat) (m : Nat) (y : Rat) (j : Nat) : Rat := if j + 1 < m then (if P j < y ∧ y < P (j + 1) then (P (j + 1) - y) / (P (j + 1) - P j) else 0) else (if P j < y then 1 else 0)
def beL (P : Nat → Rat) (y : Rat) (j : Nat) : Rat := if 0 < j then (if P (j - 1) < y ∧ y < P j then (y - P (j - 1)) / (P j - P (j - 1)) else 0) else (if y < P j then 1 else 0)
def gaR (P : Nat → Rat) (y : Rat) (j : Nat) (r : Option Nat) : Rat := match r with
  | some q => if P j < y ∧ y < P q then (P q - y) / (P q - P j) else 0
  | none => if P j < y then 1 else 0
def gaL (P : Nat → Rat) (y : Rat) (j : Nat) (l : Option Nat) : Rat := match l with
  | some p => if P p < y ∧ y < P j then (y - P p) / (P j - P p) else 0
  | none => if y < P j then 1 else 0
/-- what node j of the set gives of a load of 1 at y -/
def ga (P : Nat → Rat) (T : Nat → Bool) (m : Nat) (y : Rat) (j : Nat) : Rat := gaR P y j (nxti T m j) + gaL P y j (prvi T j) + (if y = P j then 1 else 0)
def be (P : Nat → Rat) (m : Nat) (y : Rat) (j : Nat) : Rat := beR P m y j + beL P y j + (if y = P j then 1 else 0)
def cnd (P : Nat → Rat) (j : Nat) : Rat := 1 / (P (j + 1) - P j)
section Nt
variable {P : Nat → Rat} {T : Nat → Bool} {m : Nat} {y : Rat}
theorem om_T {j : Nat} (hT : T j = true) : om P T m y j = 0 := by
  unfold om Lj Rj
  rw [if_pos hT, if_pos hT]
  show gq (some (P j)) (some (P j)) (P j) y = 0
  unfold gq
  dsimp only
  rw [if_neg (by grind)]
theorem om_r {j : Nat} (hP : ∀ i k, i < k → k < m → P i < P k) (hj : j < m) : om P T m y j = gq ((Lj T j).map P) ((nxti T m j).map P) (P j) y := by
  by_cases hT : T j = true
  · rw [om_T hT]
    unfold Lj
    rw [if_pos hT]
    refine (gq_a rfl (fun q hq => ?_)).symm
    cases hn : nxti T m j with
    | none => rw [hn] at hq; cases hq
    | some k =>
      rw [hn] at hq
      cases hq
      have := nxti_gt hn
      exact hP j k this.1 this.2.1
  · unfold om Rj
    rw [if_neg hT]
theorem om_l {j : Nat} (hP : ∀ i k, i < k → k < m → P i < P k) (hj : j < m) : om P T m y j = gq ((prvi T j).map P) ((Rj T m j).map P) (P j) y := by
  by_cases hT : T j = true
  · rw [om_T hT]
    unfold Rj
    rw [if_pos hT]
    refine (gq_b rfl (fun q hq => ?_)).symm
    cases hn : prvi T j with
    | none => rw [hn] at hq; cases hq
    | some k =>
      rw [hn] at hq
      cases hq
      have := (prvi_some hn).1
      exact hP k j this hj
  · unfold om Lj
    rw [if_neg hT]
theorem om_r1 {j : Nat} (hP : ∀ i k, i < k → k < m → P i < P k) (hj : j + 1 < m) : om P T m y (j + 1) = gq ((Lj T j).map P) ((nxti T m j).map P) (P (j + 1)) y := by
  rw [om_l hP hj]
  have e1 : prvi T (j + 1) = Lj T j := by rw [prvi]; rfl
  have e2 : Rj T m (j + 1) = nxti T m j := by
    rw [nxti_rec, if_pos hj]
    rfl
  rw [e1, e2]
theorem om_l1 {j : Nat} (hP : ∀ i k, i < k → k < m → P i < P k) (h0 : 0 < j) (hj : j < m) : om P T m y (j - 1) = gq ((prvi T j).map P) ((Rj T m j).map P) (P (j - 1)) y := by
  obtain ⟨i, rfl⟩ : ∃ i, j = i + 1 := ⟨j - 1, by omega⟩
  rw [Nat.add_sub_cancel, om_r hP (by omega)]
  have e1 : prvi T (i + 1) = Lj T i := by rw [prvi]; rfl
  have e2 : Rj T m (i + 1) = nxti T m i := by
    rw [nxti_rec, if_pos hj]
    rfl
  rw [e1, e2]
theorem ex_nb {j : Nat} (hT : ∃ i, i < m ∧ T i = true) (hj : j < m) : Lj T j ≠ none ∨ nxti T m j ≠ none := by
  obtain ⟨i, hi, hTi⟩ := hT
  by_cases hij : i ≤ j
  · left
    intro h
    unfold Lj at h
    split at h
    · cases h
    · rename_i hq
      have : i ≠ j := fun e => hq (e ▸ hTi)
      have := prvi_none h i (by omega)
      rw [hTi] at this; cases this
  · right
    intro h
    have := fsti_none h i (by omega) (by omega)
    rw [hTi] at this; cases this
theorem ex_nb2 {j : Nat} (hT : ∃ i, i < m ∧ T i = true) (hj : j < m) : prvi T j ≠ none ∨ Rj T m j ≠ none := by
  obtain ⟨i, hi, hTi⟩ := hT
  by_cases hij : i < j
  · left
    intro h
    have := prvi_none h i hij
    rw [hTi] at this; cases this
  · right
    intro h
    unfold Rj at h
    split at h
    · cases h
    · rename_i hq
      have : i ≠ j := fun e => hq (e ▸ hTi)
      have := fsti_none h i (by omega) (by omega)
      rw [hTi] at this; cases this
theorem map_ne {o : Option Nat} (h : o ≠ none) : o.map P ≠ none := by cases o <;> simp at h ⊢
theorem P_le (hP : ∀ i k, i < k → k < m → P i < P k) {i k : Nat} (h : i ≤ k) (hk : k < m) : P i ≤ P k := by
  by_cases e : i = k
  · subst e; exact Rat.le_refl
  · have := hP i k (by omega) hk; grind
/-- to the right of node j -/
theorem flR {j : Nat} (hP : ∀ i k, i < k → k < m → P i < P k) (hT : ∃ i, i < m ∧ T i = true) (hj : j < m) : (if j + 1 < m then cnd P j * (om P T m y (j + 1) - om P T m y j) else 0) + beR P m y j = sR ((Lj T j).map P) ((nxti T m j).map P) (P j) y := by
  have ha : ∀ p, (Lj T j).map P = some p → p ≤ P j := fun p hp => by
    cases h : Lj T j with
    | none => rw [h] at hp; cases hp
    | some k => rw [h] at hp; cases hp; exact P_le hP (Lj_le h) hj
  have hn : (Lj T j).map P ≠ none ∨ (nxti T m j).map P ≠ none := (ex_nb hT hj).imp map_ne map_ne
  unfold beR
  by_cases h1 : j + 1 < m
  · rw [if_pos h1, if_pos h1, om_r1 hP h1, om_r hP hj]
    have hb : ∀ q, (nxti T m j).map P = some q → P (j + 1) ≤ q := fun q hq => by
      cases h : nxti T m j with
      | none => rw [h] at hq; cases hq
      | some k =>
        rw [h] at hq; cases hq
        have := nxti_gt h
        exact P_le hP (by omega) this.2.1
    rw [← slR (hP j (j + 1) (by omega) h1) ha hb hn]
    unfold cnd
    grind
  · rw [if_neg h1, if_neg h1]
    have e : nxti T m j = none := by rw [nxti_rec, if_neg h1]
    rw [e] at hn ⊢
    cases h : Lj T j with
    | none => rw [h] at hn; simp at hn
    | some k =>
      rw [h] at ha
      have := ha (P k) rfl
      show _ = sR (some (P k)) none (P j) y
      unfold sR
      dsimp only
      by_cases h2 : P k < y <;> by_cases h3 : y ≤ P j <;> grind
theorem flL {j : Nat} (hP : ∀ i k, i < k → k < m → P i < P k) (hT : ∃ i, i < m ∧ T i = true) (hj : j < m) : (if 0 < j then cnd P (j - 1) * (om P T m y (j - 1) - om P T m y j) else 0) + beL P y j = -sL ((prvi T j).map P) ((Rj T m j).map P) (P j) y := by
  have hb : ∀ p, (Rj T m j).map P = some p → P j ≤ p := fun p hp => by
    cases h : Rj T m j with
    | none => rw [h] at hp; cases hp
    | some k => rw [h] at hp; cases hp; have := Rj_ge hj h; exact P_le hP this.1 this.2
  have hn : (prvi T j).map P ≠ none ∨ (Rj T m j).map P ≠ none := (ex_nb2 hT hj).imp map_ne map_ne
  unfold beL
  by_cases h1 : 0 < j
  · rw [if_pos h1, if_pos h1, om_l1 hP h1 hj, om_l hP hj]
    have ha : ∀ q, (prvi T j).map P = some q → q ≤ P (j - 1) := fun q hq => by
      cases h : prvi T j with
      | none => rw [h] at hq; cases hq
      | some k =>
        rw [h] at hq; cases hq
        have := (prvi_some h).1
        exact P_le hP (by omega) (by omega)
    rw [← slL (hP (j - 1) j (by omega) hj) ha hb hn]
    unfold cnd
    rw [show j - 1 + 1 = j by omega]
    grind
  · rw [if_neg h1, if_neg h1]
    have h0 : j = 0 := by omega
    subst h0
    have e : prvi T 0 = none := rfl
    rw [e] at hn ⊢
    cases h : Rj T m 0 with
    | none => rw [h] at hn; simp at hn
    | some k =>
      rw [h] at hb
      have := hb (P k) rfl
      show _ = -sL none (some (P k)) (P 0) y
      unfold sL
      dsimp only
      by_cases h2 : y < P k <;> by_cases h3 : y < P 0 <;> grind
/-- THE NETWORK LEMMA, one load of 1 -/
theorem net1 (hP : ∀ i k, i < k → k < m → P i < P k) (hT : ∃ i, i < m ∧ T i = true) {j : Nat} (hj : j < m) : be P m y j + lap m (cnd P) (om P T m y) j = if T j = true then ga P T m y j else 0 := by
  have h1 := flR (y := y) hP hT hj
  have h2 := flL (y := y) hP hT hj
  unfold be lap
  by_cases hTj : T j = true
  · rw [if_pos hTj]
    have e1 : Lj T j = some j := by unfold Lj; rw [if_pos hTj]
    have e2 : Rj T m j = some j := by unfold Rj; rw [if_pos hTj]
    rw [e1] at h1
    rw [e2] at h2
    have f1 : sR (some (P j)) ((nxti T m j).map P) (P j) y = gaR P y j (nxti T m j) := by
      cases h : nxti T m j with
      | none =>
        show sR (some (P j)) none (P j) y = _
        unfold sR gaR
        dsimp only
        by_cases q : P j < y <;> grind
      | some k =>
        show sR (some (P j)) (some (P k)) (P j) y = _
        unfold sR gaR
        dsimp only
        by_cases q : P j < y ∧ y < P k <;> grind
    have f2 : -sL ((prvi T j).map P) (some (P j)) (P j) y = gaL P y j (prvi T j) := by
      cases h : prvi T j with
      | none =>
        show -sL none (some (P j)) (P j) y = _
        unfold sL gaL
        dsimp only
        by_cases q : y < P j <;> grind
      | some k =>
        show -sL (some (P k)) (some (P j)) (P j) y = _
        unfold sL gaL
        dsimp only
        by_cases q : P k < y ∧ y < P j <;> grind
    rw [show (Option.map P (some j)) = some (P j) from rfl] at h1 h2
    rw [f1] at h1
    rw [f2] at h2
    unfold ga
    rw [← h1, ← h2]
    grind
  · rw [if_neg hTj]
    have e1 : Lj T j = prvi T j := by unfold Lj; rw [if_neg hTj]
    have e2 : Rj T m j = nxti T m j := by unfold Rj; rw [if_neg hTj]
    rw [e1] at h1
    rw [e2] at h2
    have hk := kink (a := (prvi T j).map P) (b := (nxti T m j).map P) (x := P j) (y := y) (fun p hp => by
      cases h : prvi T j with
      | none => rw [h] at hp; cases hp
      | some k => rw [h] at hp; cases hp; exact hP k j (prvi_some h).1 hj) (fun q hq => by
      cases h : nxti T m j with
      | none => rw [h] at hq; cases hq
      | some k => rw [h] at hq; cases hq; have := nxti_gt h; exact hP j k this.1 this.2.1) (by
      rw [← e1]
      exact (ex_nb hT hj).imp map_ne map_ne)
    grind
end Nt
