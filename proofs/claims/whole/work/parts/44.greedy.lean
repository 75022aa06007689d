/-! THE ROUNDS END AT THE SET OF ALL STATIONS THAT HAVE JUST V -/
section Gr
variable {P : Nat → Rat} {m N : Nat} {a y : Nat → Rat}
def rndT (P : Nat → Rat) (m N : Nat) (a y : Nat → Rat) (T : Nat → Bool) : Nat → Bool := fun j => T j && decide (0 ≤ gS P T m N a y j)
def anyT (P : Nat → Rat) (m N : Nat) (a y : Nat → Rat) (T : Nat → Bool) : Bool := anyB (fun j => T j && decide (gS P T m N a y j < 0)) m
def grd (P : Nat → Rat) (m N : Nat) (a y : Nat → Rat) : Nat → (Nat → Bool) → Nat → Bool
  | 0, T => T
  | k + 1, T => if anyT P m N a y T = true then grd P m N a y k (rndT P m N a y T) else T
/-- what holds of the set from round to round -/
def gInv (P : Nat → Rat) (m N : Nat) (a y : Nat → Rat) (T : Nat → Bool) : Prop := (∃ j, j < m ∧ T j = true) ∧ ∀ j, j < m → T j = false → vS P T m N a y j < 0
theorem rndT_iff {T : Nat → Bool} {j : Nat} : rndT P m N a y T j = true ↔ T j = true ∧ 0 ≤ gS P T m N a y j := by
  unfold rndT
  simp
theorem vS_T {T : Nat → Bool} {j : Nat} (h : T j = true) : vS P T m N a y j = 0 := by
  unfold vS
  rw [sumR_congr (g := fun n => a n * (if False then (0 : Rat) else 0)) (fun n _ => by rw [om_T h]; simp), sumR_if]
  simp
theorem gInv_le {T : Nat → Bool} (h : gInv P m N a y T) : ∀ j, j < m → vS P T m N a y j ≤ 0 := by
  intro j hj
  by_cases hT : T j = true
  · rw [vS_T hT]; grind
  · have := h.2 j hj (by simpa using hT); grind
theorem gInv_rnd (hP : ∀ i k, i < k → k < m → P i < P k) (hs : 0 ≤ sumR a N) {T : Nat → Bool} (h : gInv P m N a y T) : gInv P m N a y (rndT P m N a y T) := by
  have hn := netS (N := N) (a := a) (y := y) hP h.1
  have hm : 0 < m := by obtain ⟨j, hj, _⟩ := h.1; omega
  have hne : ∃ j, j < m ∧ rndT P m N a y T j = true := by
    rcases Classical.em (∃ j, j < m ∧ rndT P m N a y T j = true) with q | q
    · exact q
    · exfalso
      have hsum := net_sum hn
      rw [bS_sum hP hm] at hsum
      have hneg : ∀ i, i < m → T i = true → gS P T m N a y i < 0 := fun i hi hT => by
        rcases (show 0 ≤ gS P T m N a y i ∨ gS P T m N a y i < 0 by grind) with z | z
        · exact absurd ⟨i, hi, rndT_iff.mpr ⟨hT, z⟩⟩ q
        · exact z
      have := sumR_neg (f := fun j => if T j = true then gS P T m N a y j else 0) (n := m) (fun i hi => by
        split
        · rename_i hT; have := hneg i hi hT; grind
        · exact Rat.le_refl) (by
        obtain ⟨j, hj, hT⟩ := h.1
        refine ⟨j, hj, ?_⟩
        rw [if_pos hT]
        exact hneg j hj hT)
      grind
  have hn2 := netS (N := N) (a := a) (y := y) hP hne
  obtain ⟨r1, r2⟩ := rnd_le (cnd_pos hP) hn (fun j hj => rndT_iff) hn2
  refine ⟨hne, fun j hj hj2 => ?_⟩
  by_cases hT : T j = true
  · have := r2 j hj hT hj2
    rw [vS_T hT] at this
    exact this
  · have b1 := r1 j hj
    have b2 := h.2 j hj (by simpa using hT)
    grind
theorem cntB_mono {f g : Nat → Bool} : ∀ {n : Nat}, (∀ j, j < n → g j = true → f j = true) → cntB g n ≤ cntB f n := by
  intro n
  induction n with
  | zero => intro _; exact Nat.le_refl _
  | succ n ih =>
    intro h
    have := ih (fun j hj => h j (by omega))
    have h2 := h n (by omega)
    rw [cntB, cntB]
    by_cases hg : g n = true
    · rw [if_pos hg, if_pos (h2 hg)]; omega
    · rw [if_neg hg]; split <;> omega
theorem cntB_lt {f g : Nat → Bool} : ∀ {n : Nat}, (∀ j, j < n → g j = true → f j = true) → (∃ j, j < n ∧ f j = true ∧ g j = false) → cntB g n < cntB f n := by
  intro n
  induction n with
  | zero => rintro _ ⟨j, h, _⟩; omega
  | succ n ih =>
    rintro h ⟨j, hj, h1, h2⟩
    have hm := cntB_mono (n := n) (fun j hj => h j (by omega))
    have h3 := h n (by omega)
    rw [cntB, cntB]
    by_cases hjn : j = n
    · subst hjn
      rw [if_pos h1, if_neg (by simp [h2])]
      omega
    · have := ih (fun j hj => h j (by omega)) ⟨j, by omega, h1, h2⟩
      by_cases hg : g n = true
      · rw [if_pos hg, if_pos (h3 hg)]; omega
      · rw [if_neg hg]; split <;> omega
theorem cntB_pos {f : Nat → Bool} {n j : Nat} (hj : j < n) (h : f j = true) : 0 < cntB f n := by
  have := cntB_lt (f := f) (g := fun _ => false) (n := n) (fun _ _ q => by cases q) ⟨j, hj, h, rfl⟩
  omega
/-- the end of the rounds -/
theorem grd_end (hP : ∀ i k, i < k → k < m → P i < P k) (hs : 0 ≤ sumR a N) : ∀ (k : Nat) (T : Nat → Bool), gInv P m N a y T → cntB T m ≤ k → gInv P m N a y (grd P m N a y k T) ∧ ∀ j, j < m → grd P m N a y k T j = true → 0 ≤ gS P (grd P m N a y k T) m N a y j := by
  intro k
  induction k with
  | zero =>
    intro T h hc
    exfalso
    obtain ⟨j, hj, hT⟩ := h.1
    have := cntB_pos hj hT
    omega
  | succ k ih =>
    intro T h hc
    rw [grd]
    by_cases ht : anyT P m N a y T = true
    · rw [if_pos ht]
      obtain ⟨j, hj, hT⟩ := anyB_iff.mp ht
      simp only [Bool.and_eq_true, decide_eq_true_eq] at hT
      have hlt : cntB (rndT P m N a y T) m < cntB T m := cntB_lt (fun j _ q => (rndT_iff.mp q).1) ⟨j, hj, hT.1, by
        have : ¬ rndT P m N a y T j = true := fun q => by have := (rndT_iff.mp q).2; grind
        simpa using this⟩
      exact ih _ (gInv_rnd hP hs h) (by omega)
    · rw [if_neg ht]
      refine ⟨h, fun j hj hT => ?_⟩
      rcases (show 0 ≤ gS P T m N a y j ∨ gS P T m N a y j < 0 by grind) with z | z
      · exact z
      · exact absurd (anyB_iff.mpr ⟨j, hj, by simp [hT, z]⟩) ht
/-- S: the set at the end. It feeds; what is not in it has less than V; every set that feeds lies between those that give and S; and each such set feeds, with the same volts and gives -/
theorem greedy_fds (hP : ∀ i k, i < k → k < m → P i < P k) {S : Nat → Bool} (h1 : gInv P m N a y S) (h2 : ∀ j, j < m → S j = true → 0 ≤ gS P S m N a y j) {T : Nat → Bool} (hT : ∃ j, j < m ∧ T j = true) : (fds m T (vS P T m N a y) (gS P T m N a y) ↔ ∀ j, j < m → (T j = true → S j = true) ∧ (S j = true → 0 < gS P S m N a y j → T j = true)) := by
  have hnS := netS (N := N) (a := a) (y := y) hP h1.1
  have hnT := netS (N := N) (a := a) (y := y) hP hT
  have hfS : fds m S (vS P S m N a y) (gS P S m N a y) := ⟨h2, fun j hj _ => gInv_le h1 j hj⟩
  constructor
  · intro hf j hj
    have ev := fds_eq (cnd_pos hP) hnT hf hnS hfS
    have eg := fds_eqg (cnd_pos hP) hnT hf hnS hfS
    constructor
    · intro hTj
      rcases Bool.eq_false_or_eq_true (S j) with q | q
      · exact q
      · have a1 := h1.2 j hj q
        have a2 := ev j hj
        rw [vS_T hTj] at a2
        grind
    · intro hSj hpos
      have := eg j hj
      rw [if_pos hSj] at this
      rcases Bool.eq_false_or_eq_true (T j) with q | q
      · exact q
      · rw [if_neg (by simp [q])] at this
        grind
  · intro hb
    obtain ⟨e1, e2⟩ := idle_out (cnd_pos hP) hnS hfS hnT (fun j hj => ⟨fun hTj => vS_T ((hb j hj).1 hTj), (hb j hj).2⟩)
    refine ⟨fun j hj hTj => ?_, fun j hj _ => ?_⟩
    · have := e2 j hj
      rw [if_pos hTj, if_pos ((hb j hj).1 hTj)] at this
      have := h2 j hj ((hb j hj).1 hTj)
      grind
    · rw [e1 j hj]
      exact gInv_le h1 j hj
theorem greedy_same (hP : ∀ i k, i < k → k < m → P i < P k) {S : Nat → Bool} (h1 : gInv P m N a y S) (h2 : ∀ j, j < m → S j = true → 0 ≤ gS P S m N a y j) {T : Nat → Bool} (hT : ∃ j, j < m ∧ T j = true) (hb : ∀ j, j < m → (T j = true → S j = true) ∧ (S j = true → 0 < gS P S m N a y j → T j = true)) : ∀ j, j < m → T j = true → gS P T m N a y j = gS P S m N a y j := by
  have hnS := netS (N := N) (a := a) (y := y) hP h1.1
  have hnT := netS (N := N) (a := a) (y := y) hP hT
  have hfS : fds m S (vS P S m N a y) (gS P S m N a y) := ⟨h2, fun j hj _ => gInv_le h1 j hj⟩
  obtain ⟨e1, e2⟩ := idle_out (cnd_pos hP) hnS hfS hnT (fun j hj => ⟨fun hTj => vS_T ((hb j hj).1 hTj), (hb j hj).2⟩)
  intro j hj hTj
  have := e2 j hj
  rwa [if_pos hTj, if_pos ((hb j hj).1 hTj)] at this
/-- nothing feeds, if more is given back than pulled -/
theorem none_fds (hP : ∀ i k, i < k → k < m → P i < P k) (hs : sumR a N < 0) {T : Nat → Bool} (hT : ∃ j, j < m ∧ T j = true) : ¬ fds m T (vS P T m N a y) (gS P T m N a y) := by
  intro hf
  have hn := netS (N := N) (a := a) (y := y) hP hT
  have hm : 0 < m := by obtain ⟨j, hj, _⟩ := hT; omega
  have hsum := net_sum hn
  rw [bS_sum hP hm] at hsum
  have : ∀ k, k ≤ m → 0 ≤ sumR (fun j => if T j = true then gS P T m N a y j else 0) k := by
    intro k
    induction k with
    | zero => intro _; exact Rat.le_refl
    | succ k ih =>
      intro hk
      rw [sumR]
      have h0 := ih (by omega)
      split
      · rename_i q; have := hf.1 k (by omega) q; grind
      · grind
  have := this m (Nat.le_refl _)
  grind
end Gr
