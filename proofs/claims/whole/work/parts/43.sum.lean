/-! THE NETWORK, ALL LOADS -/
theorem lap_lin {m : Nat} {c v w : Nat → Rat} {k : Rat} {j : Nat} : lap m c (fun i => v i + k * w i) j = lap m c v j + k * lap m c w j := by
  unfold lap
  split <;> split <;> grind
theorem lap_w {m N : Nat} {c : Nat → Rat} {a : Nat → Rat} {f : Nat → Nat → Rat} {j : Nat} : lap m c (fun i => sumR (fun n => a n * f n i) N) j = sumR (fun n => a n * lap m c (f n) j) N := by
  induction N with
  | zero =>
    simp only [sumR]
    unfold lap
    split <;> split <;> grind
  | succ N ih =>
    simp only [sumR]
    rw [lap_lin, ih]
theorem sumR_if {a : Nat → Rat} {f : Nat → Rat} {P : Prop} [Decidable P] : ∀ N, sumR (fun n => a n * (if P then f n else 0)) N = if P then sumR (fun n => a n * f n) N else 0 := by
  intro N
  by_cases h : P
  · simp only [if_pos h]
  · simp only [if_neg h]
    induction N with
    | zero => rfl
    | succ N ih => rw [sumR, ih]; grind
def vS (P : Nat → Rat) (T : Nat → Bool) (m N : Nat) (a y : Nat → Rat) (j : Nat) : Rat := sumR (fun n => a n * om P T m (y n) j) N
def gS (P : Nat → Rat) (T : Nat → Bool) (m N : Nat) (a y : Nat → Rat) (j : Nat) : Rat := sumR (fun n => a n * ga P T m (y n) j) N
def bS (P : Nat → Rat) (m N : Nat) (a y : Nat → Rat) (j : Nat) : Rat := sumR (fun n => a n * be P m (y n) j) N
theorem netS {P : Nat → Rat} {T : Nat → Bool} {m N : Nat} {a y : Nat → Rat} (hP : ∀ i k, i < k → k < m → P i < P k) (hT : ∃ i, i < m ∧ T i = true) : net m (cnd P) (bS P m N a y) T (vS P T m N a y) (gS P T m N a y) := by
  refine ⟨hT, fun j hj hTj => ?_, fun j hj => ?_⟩
  · unfold vS
    rw [sumR_congr (g := fun n => a n * (if False then (0 : Rat) else 0)) (fun n _ => by rw [om_T hTj]; simp), sumR_if]
    simp
  · unfold bS vS gS
    rw [lap_w, ← sumR_add, ← sumR_if]
    refine sumR_congr (fun n _ => ?_)
    rw [← net1 (y := y n) hP hT hj]
    grind
theorem cnd_pos {P : Nat → Rat} {m : Nat} (hP : ∀ i k, i < k → k < m → P i < P k) : ∀ j, j + 1 < m → 0 < cnd P j := by
  intro j hj
  have := hP j (j + 1) (by omega) hj
  unfold cnd
  have h2 : 0 < P (j + 1) - P j := by grind
  rw [Rat.lt_div_iff h2]
  grind
/-- all nodes together give all the loads -/
theorem be_sum {P : Nat → Rat} {m : Nat} {y : Rat} (hP : ∀ i k, i < k → k < m → P i < P k) : ∀ k, k < m → sumR (be P m y) (k + 1) = if y ≤ P k then 1 else beR P m y k := by
  intro k
  induction k with
  | zero =>
    intro hk
    simp only [sumR]
    unfold be beL beR
    by_cases h1 : 0 + 1 < m
    · have := hP 0 1 (by omega) h1
      by_cases h2 : y < P 0 <;> by_cases h3 : y = P 0 <;> by_cases h4 : y < P (0 + 1) <;> grind
    · by_cases h2 : y < P 0 <;> by_cases h3 : y = P 0 <;> grind
  | succ k ih =>
    intro hk
    rw [sumR, ih (by omega)]
    have h0 := hP k (k + 1) (by omega) hk
    have hz : P (k + 1) - P k ≠ 0 := by grind
    have e1 : beR P m y k = if P k < y ∧ y < P (k + 1) then (P (k + 1) - y) / (P (k + 1) - P k) else 0 := by unfold beR; rw [if_pos hk]
    have e2 : beL P y (k + 1) = if P k < y ∧ y < P (k + 1) then (y - P k) / (P (k + 1) - P k) else 0 := by unfold beL; rw [if_pos (by omega), Nat.add_sub_cancel]
    unfold be
    rw [e1, e2]
    have e3 : y ≤ P (k + 1) → beR P m y (k + 1) = 0 := by
      intro hy
      unfold beR
      split
      · rw [if_neg (by grind)]
      · rw [if_neg (by grind)]
    by_cases h1 : y ≤ P (k + 1)
    · rw [e3 h1]
      by_cases h2 : y ≤ P k <;> by_cases h3 : y = P (k + 1) <;> grind
    · by_cases h2 : y ≤ P k <;> by_cases h3 : y = P (k + 1) <;> grind
theorem be_one {P : Nat → Rat} {m : Nat} {y : Rat} (hP : ∀ i k, i < k → k < m → P i < P k) (hm : 0 < m) : sumR (be P m y) m = 1 := by
  obtain ⟨k, rfl⟩ : ∃ k, m = k + 1 := ⟨m - 1, by omega⟩
  rw [be_sum hP k (by omega)]
  split
  · rfl
  · unfold beR
    rw [if_neg (by omega), if_pos (by grind)]
theorem sumR_swap {f : Nat → Nat → Rat} : ∀ {m N : Nat}, sumR (fun j => sumR (fun n => f n j) N) m = sumR (fun n => sumR (fun j => f n j) m) N := by
  intro m N
  induction m with
  | zero =>
    simp only [sumR]
    induction N with
    | zero => rfl
    | succ N ih => rw [sumR, ← ih]; grind
  | succ m ih =>
    simp only [sumR]
    rw [ih, sumR_add]
theorem sumR_mul {k : Rat} {f : Nat → Rat} : ∀ N, sumR (fun n => k * f n) N = k * sumR f N := by
  intro N
  induction N with
  | zero => simp only [sumR]; grind
  | succ N ih => rw [sumR, ih, sumR]; grind
theorem bS_sum {P : Nat → Rat} {m N : Nat} {a y : Nat → Rat} (hP : ∀ i k, i < k → k < m → P i < P k) (hm : 0 < m) : sumR (bS P m N a y) m = sumR a N := by
  unfold bS
  rw [sumR_swap]
  refine sumR_congr (fun n _ => ?_)
  rw [sumR_mul, be_one hP hm]
  grind
/-- all stations: they give their own part -/
theorem prvi_all {T : Nat → Bool} {m : Nat} (h : ∀ j, j < m → T j = true) {j : Nat} (hj : j < m) : prvi T j = if 0 < j then some (j - 1) else none := by
  match j with
  | 0 => rfl
  | j + 1 => rw [prvi, if_pos (h j (by omega)), if_pos (by omega), Nat.add_sub_cancel]
/-- those that give nothing may be left out: same volts, same gives -/
theorem idle_out {m : Nat} {c b : Nat → Rat} (hc : ∀ j, j + 1 < m → 0 < c j) {S U : Nat → Bool} {v g w f : Nat → Rat} (h1 : net m c b S v g) (hS : fds m S v g) (h3 : net m c b U w f) (hU : ∀ j, j < m → (U j = true → v j = 0) ∧ (S j = true → 0 < g j → U j = true)) : (∀ j, j < m → w j = v j) ∧ ∀ j, j < m → (if U j = true then f j else 0) = (if S j = true then g j else 0) := by
  have key : ∀ (p q : Nat → Rat), (∀ j, j < m → U j = true → p j = 0 ∧ q j = 0) → (∀ j, j < m → ¬ U j = true → lap m c p j = lap m c q j) → ∀ j, j < m → p j ≤ q j := by
    intro p q e1 e2 j hj
    have := max_pr (d := fun i => p i - q i) hc (fun j => U j = true) h3.1 (fun j hj hu => by
      obtain ⟨z1, z2⟩ := e1 j hj hu
      rw [z1, z2]; grind) (fun j hj hu => by
      rw [lap_sub, e2 j hj hu]; grind) j hj
    grind
  have hz : ∀ j, j < m → ¬ U j = true → lap m c w j = lap m c v j := by
    intro j hj hu
    have a := h1.2.2 j hj
    have b := h3.2.2 j hj
    rw [if_neg hu] at b
    by_cases hs : S j = true
    · rw [if_pos hs] at a
      have p0 := hS.1 j hj hs
      have : ¬ 0 < g j := fun q => hu ((hU j hj).2 hs q)
      grind
    · rw [if_neg hs] at a
      grind
  have hb : ∀ j, j < m → U j = true → w j = 0 ∧ v j = 0 := fun j hj hu => ⟨h3.2.1 j hj hu, (hU j hj).1 hu⟩
  have e : ∀ j, j < m → w j = v j := fun j hj => by
    have a := key w v hb hz j hj
    have b := key v w (fun j hj hu => ⟨(hb j hj hu).2, (hb j hj hu).1⟩) (fun j hj hu => (hz j hj hu).symm) j hj
    grind
  refine ⟨e, fun j hj => ?_⟩
  rw [← h3.2.2 j hj, ← h1.2.2 j hj, lap_congr e hj]
