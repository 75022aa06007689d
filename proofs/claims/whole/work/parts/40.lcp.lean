/-! A PATH OF NODES: the greatest place, and who feeds (over Rat, no machine) -/
def lap (m : Nat) (c v : Nat → Rat) (j : Nat) : Rat := (if j + 1 < m then c j * (v (j + 1) - v j) else 0) + (if 0 < j then c (j - 1) * (v (j - 1) - v j) else 0)
def sumR (f : Nat → Rat) : Nat → Rat
  | 0 => 0
  | n + 1 => sumR f n + f n
theorem has_max (d : Nat → Rat) : ∀ m, 0 < m → ∃ j, j < m ∧ ∀ i, i < m → d i ≤ d j := by
  intro m
  induction m with
  | zero => intro h; omega
  | succ m ih =>
    intro _
    by_cases hm : 0 < m
    · obtain ⟨j, h1, h2⟩ := ih hm
      by_cases hd : d m ≤ d j
      · exact ⟨j, by omega, fun i hi => by
          by_cases hi2 : i = m
          · subst hi2; exact hd
          · exact h2 i (by omega)⟩
      · exact ⟨m, by omega, fun i hi => by
          by_cases hi2 : i = m
          · subst hi2; exact Rat.le_refl
          · have := h2 i (by omega); grind⟩
    · exact ⟨0, by omega, fun i hi => by
        have : i = 0 := by omega
        subst this
        exact Rat.le_refl⟩
theorem mul_np {c x : Rat} (hc : 0 < c) (hx : x ≤ 0) : c * x ≤ 0 := by
  have := Rat.mul_le_mul_of_nonneg_left (c := c) hx (by grind)
  grind
theorem mul_nz {c x : Rat} (hc : 0 < c) (hx : c * x = 0) : x = 0 := by
  rcases Rat.mul_eq_zero.mp hx with h | h
  · grind
  · exact h
theorem lap_max {m : Nat} {c d : Nat → Rat} (hc : ∀ j, j + 1 < m → 0 < c j) {j : Nat} (hj : j < m) (hm : ∀ i, i < m → d i ≤ d j) : lap m c d j ≤ 0 := by
  unfold lap
  have h1 : (if j + 1 < m then c j * (d (j + 1) - d j) else 0) ≤ 0 := by
    split
    · rename_i h
      have := hm (j + 1) h
      exact mul_np (hc j h) (by grind)
    · exact Rat.le_refl
  have h2 : (if 0 < j then c (j - 1) * (d (j - 1) - d j) else 0) ≤ 0 := by
    split
    · rename_i h
      have := hm (j - 1) (by omega)
      exact mul_np (hc (j - 1) (by omega)) (by grind)
    · exact Rat.le_refl
  grind
theorem lap_max_nb {m : Nat} {c d : Nat → Rat} (hc : ∀ j, j + 1 < m → 0 < c j) {j : Nat} (hj : j < m) (hm : ∀ i, i < m → d i ≤ d j) (hl : 0 ≤ lap m c d j) : (j + 1 < m → d (j + 1) = d j) ∧ (0 < j → d (j - 1) = d j) := by
  unfold lap at hl
  have h1 : (if j + 1 < m then c j * (d (j + 1) - d j) else 0) ≤ 0 := by
    split
    · rename_i h
      have := hm (j + 1) h
      exact mul_np (hc j h) (by grind)
    · exact Rat.le_refl
  have h2 : (if 0 < j then c (j - 1) * (d (j - 1) - d j) else 0) ≤ 0 := by
    split
    · rename_i h
      have := hm (j - 1) (by omega)
      exact mul_np (hc (j - 1) (by omega)) (by grind)
    · exact Rat.le_refl
  constructor
  · intro h
    rw [if_pos h] at h1 hl
    have h3 : c j * (d (j + 1) - d j) = 0 := by grind
    have := mul_nz (hc j h) h3
    grind
  · intro h
    rw [if_pos h] at h2 hl
    have h3 : c (j - 1) * (d (j - 1) - d j) = 0 := by grind
    have := mul_nz (hc (j - 1) (by omega)) h3
    grind
/-- the greatest place lies on A -/
theorem max_pr {m : Nat} {c d : Nat → Rat} (hc : ∀ j, j + 1 < m → 0 < c j) (A : Nat → Prop) (hA : ∃ j, j < m ∧ A j) (h0 : ∀ j, j < m → A j → d j ≤ 0) (hL : ∀ j, j < m → ¬ A j → 0 ≤ lap m c d j) : ∀ j, j < m → d j ≤ 0 := by
  obtain ⟨a, ha, haA⟩ := hA
  obtain ⟨x, hx, hmax⟩ := has_max d m (by omega)
  rcases (show d x ≤ 0 ∨ 0 < d x by grind) with hD | hD
  · intro j hj
    have := hmax j hj
    grind
  · exfalso
    have hnb : ∀ j, j < m → d j = d x → (j + 1 < m → d (j + 1) = d x) ∧ (0 < j → d (j - 1) = d x) := by
      intro j hj hjx
      have hnA : ¬ A j := fun q => by have := h0 j hj q; grind
      have := lap_max_nb hc hj (fun i hi => by rw [hjx]; exact hmax i hi) (hL j hj hnA)
      rw [hjx] at this
      exact this
    have hup : ∀ k, x + k < m → d (x + k) = d x := by
      intro k
      induction k with
      | zero => intro _; rfl
      | succ k ih => intro hk; exact (hnb (x + k) (by omega) (ih (by omega))).1 (by omega)
    have hdn : ∀ k, k ≤ x → d (x - k) = d x := by
      intro k
      induction k with
      | zero => intro _; rfl
      | succ k ih =>
        intro hk
        have := (hnb (x - k) (by omega) (ih (by omega))).2 (by omega)
        rwa [show x - k - 1 = x - (k + 1) by omega] at this
    have had : d a = d x := by
      by_cases hax : x ≤ a
      · have := hup (a - x) (by omega)
        rwa [show x + (a - x) = a by omega] at this
      · have := hdn (x - a) (by omega)
        rwa [show x - (x - a) = a by omega] at this
    have := h0 a ha haA
    grind
theorem max_pr_lt {m : Nat} {c d : Nat → Rat} (hc : ∀ j, j + 1 < m → 0 < c j) (hd : ∀ j, j < m → d j ≤ 0) {r : Nat} (hr : r < m) (hl : 0 < lap m c d r) : d r < 0 := by
  have h1 := hd r hr
  rcases (show d r < 0 ∨ d r = 0 by grind) with h | h
  · exact h
  · have := lap_max (d := d) hc hr (fun i hi => by rw [h]; exact hd i hi)
    grind
theorem lap_sub {m : Nat} {c v w : Nat → Rat} {j : Nat} : lap m c (fun i => v i - w i) j = lap m c v j - lap m c w j := by
  unfold lap
  split <;> split <;> grind
/-- what goes out of a node comes into its neighbour -/
theorem lap_sum {c v : Nat → Rat} {m : Nat} : ∀ k, k ≤ m → sumR (lap m c v) k = (if 0 < k ∧ k < m then c (k - 1) * (v k - v (k - 1)) else 0) := by
  intro k
  induction k with
  | zero => intro _; simp [sumR]
  | succ k ih =>
    intro hk
    rw [sumR, ih (by omega)]
    unfold lap
    by_cases h1 : k + 1 < m
    · by_cases h0 : 0 < k
      · rw [if_pos ⟨h0, by omega⟩, if_pos h1, if_pos h0, if_pos ⟨by omega, h1⟩]
        simp only [Nat.add_sub_cancel]
        grind
      · have : k = 0 := by omega
        subst this
        rw [if_neg (by omega), if_pos h1, if_neg (by omega), if_pos ⟨by omega, h1⟩]
        simp only [Nat.add_sub_cancel]
        grind
    · by_cases h0 : 0 < k
      · rw [if_pos ⟨h0, by omega⟩, if_neg h1, if_pos h0, if_neg (by omega)]
        grind
      · have : k = 0 := by omega
        subst this
        rw [if_neg (by omega), if_neg h1, if_neg (by omega), if_neg (by omega)]
        grind
theorem sumR_add {f g : Nat → Rat} : ∀ n, sumR (fun i => f i + g i) n = sumR f n + sumR g n := by
  intro n
  induction n with
  | zero => simp only [sumR]; grind
  | succ n ih => simp only [sumR, ih]; grind
theorem sumR_congr {f g : Nat → Rat} : ∀ {n}, (∀ i, i < n → f i = g i) → sumR f n = sumR g n := by
  intro n
  induction n with
  | zero => intro _; rfl
  | succ n ih => intro h; rw [sumR, sumR, ih (fun i hi => h i (by omega)), h n (by omega)]
theorem sumR_neg {f : Nat → Rat} : ∀ {n}, (∀ i, i < n → f i ≤ 0) → (∃ i, i < n ∧ f i < 0) → sumR f n < 0 := by
  intro n
  induction n with
  | zero => rintro _ ⟨i, h, _⟩; omega
  | succ n ih =>
    rintro h ⟨i, hi, hf⟩
    have h0 : ∀ k, (∀ i, i < k → f i ≤ 0) → sumR f k ≤ 0 := by
      intro k
      induction k with
      | zero => intro _; exact Rat.le_refl
      | succ k ihk =>
        intro hk
        have a := ihk (fun i hi => hk i (by omega))
        have b := hk k (by omega)
        rw [sumR]
        grind
    rw [sumR]
    by_cases hin : i = n
    · subst hin
      have := h0 i (fun q hq => h q (by omega))
      grind
    · have a := ih (fun q hq => h q (by omega)) ⟨i, by omega, hf⟩
      have b := h n (by omega)
      grind
/-- v, g belong to the set T of nodes, under loads b -/
def net (m : Nat) (c b : Nat → Rat) (T : Nat → Bool) (v g : Nat → Rat) : Prop := (∃ j, j < m ∧ T j = true) ∧ (∀ j, j < m → T j = true → v j = 0) ∧ ∀ j, j < m → b j + lap m c v j = if T j = true then g j else 0
/-- T feeds -/
def fds (m : Nat) (T : Nat → Bool) (v g : Nat → Rat) : Prop := (∀ j, j < m → T j = true → 0 ≤ g j) ∧ ∀ j, j < m → T j = false → v j ≤ 0
theorem net_sum {m : Nat} {c b : Nat → Rat} {T : Nat → Bool} {v g : Nat → Rat} (h : net m c b T v g) : sumR (fun j => if T j = true then g j else 0) m = sumR b m := by
  rw [← sumR_congr (f := fun j => b j + lap m c v j) (fun i hi => h.2.2 i hi), sumR_add, lap_sum m (Nat.le_refl _), if_neg (by omega)]
  grind
theorem fds_le {m : Nat} {c b : Nat → Rat} (hc : ∀ j, j + 1 < m → 0 < c j) {T U : Nat → Bool} {v g w f : Nat → Rat} (h1 : net m c b T v g) (h2 : fds m T v g) (h3 : net m c b U w f) (h4 : fds m U w f) : ∀ j, j < m → v j ≤ w j := by
  have := max_pr (d := fun i => v i - w i) hc (fun j => U j = true) h3.1 (fun j hj hU => by
    rw [h3.2.1 j hj hU]
    by_cases hT : T j = true
    · rw [h1.2.1 j hj hT]; grind
    · have := h2.2 j hj (by simpa using hT); grind) (fun j hj hU => by
    rw [lap_sub]
    have a := h1.2.2 j hj
    have b := h3.2.2 j hj
    rw [if_neg hU] at b
    by_cases hT : T j = true
    · rw [if_pos hT] at a
      have := h2.1 j hj hT
      grind
    · rw [if_neg hT] at a
      grind)
  intro j hj
  have := this j hj
  grind
/-- all sets that feed have the same volts -/
theorem fds_eq {m : Nat} {c b : Nat → Rat} (hc : ∀ j, j + 1 < m → 0 < c j) {T U : Nat → Bool} {v g w f : Nat → Rat} (h1 : net m c b T v g) (h2 : fds m T v g) (h3 : net m c b U w f) (h4 : fds m U w f) : ∀ j, j < m → v j = w j := fun j hj => by
  have a := fds_le hc h1 h2 h3 h4 j hj
  have b := fds_le hc h3 h4 h1 h2 j hj
  grind
theorem lap_congr {m : Nat} {c v w : Nat → Rat} (h : ∀ j, j < m → v j = w j) {j : Nat} (hj : j < m) : lap m c v j = lap m c w j := by
  unfold lap
  rw [h j hj]
  congr 1
  · split
    · rename_i q; rw [h (j + 1) q]
    · rfl
  · split
    · rw [h (j - 1) (by omega)]
    · rfl
theorem fds_eqg {m : Nat} {c b : Nat → Rat} (hc : ∀ j, j + 1 < m → 0 < c j) {T U : Nat → Bool} {v g w f : Nat → Rat} (h1 : net m c b T v g) (h2 : fds m T v g) (h3 : net m c b U w f) (h4 : fds m U w f) : ∀ j, j < m → (if T j = true then g j else 0) = (if U j = true then f j else 0) := fun j hj => by
  rw [← h1.2.2 j hj, ← h3.2.2 j hj, lap_congr (fds_eq hc h1 h2 h3 h4) hj]
/-- one round: those that take are left out -/
theorem rnd_le {m : Nat} {c b : Nat → Rat} (hc : ∀ j, j + 1 < m → 0 < c j) {S T : Nat → Bool} {v g w f : Nat → Rat} (h1 : net m c b S v g) (hT : ∀ j, j < m → (T j = true ↔ S j = true ∧ 0 ≤ g j)) (h3 : net m c b T w f) : (∀ j, j < m → w j ≤ v j) ∧ ∀ j, j < m → S j = true → T j = false → w j < v j := by
  have hl : ∀ j, j < m → ¬ T j = true → 0 ≤ lap m c (fun i => w i - v i) j := fun j hj hU => by
    rw [lap_sub]
    have a := h1.2.2 j hj
    have b := h3.2.2 j hj
    rw [if_neg hU] at b
    by_cases hS : S j = true
    · rw [if_pos hS] at a
      have : ¬ 0 ≤ g j := fun q => hU ((hT j hj).mpr ⟨hS, q⟩)
      grind
    · rw [if_neg hS] at a
      grind
  have h := max_pr (d := fun i => w i - v i) hc (fun j => T j = true) h3.1 (fun j hj hU => by
    have := ((hT j hj).mp hU).1
    rw [h3.2.1 j hj hU, h1.2.1 j hj this]; grind) hl
  refine ⟨fun j hj => by have := h j hj; grind, fun j hj hS hTj => ?_⟩
  have := max_pr_lt hc h hj (by
    rw [lap_sub]
    have a := h1.2.2 j hj
    have b := h3.2.2 j hj
    rw [if_neg (by simp [hTj])] at b
    rw [if_pos hS] at a
    have : ¬ 0 ≤ g j := fun q => by have := (hT j hj).mpr ⟨hS, q⟩; rw [hTj] at this; cases this
    grind)
  grind
