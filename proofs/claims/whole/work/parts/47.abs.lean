/-! THE CIRCUIT WITHOUT CELLS: c = ((V, R, TOP), m, places, numbers), l = (who is there, where, amperes) -/
abbrev qC : Type := (Rat × Rat × Rat) × Nat × (Nat → Rat) × (Nat → Nat)
abbrev qL : Type := (Nat → Bool) × (Nat → Rat) × (Nat → Int)
def q_m (c : qC) : Nat := c.2.1
def q_P (c : qC) : Nat → Rat := c.2.2.1
def q_nu (c : qC) : Nat → Nat := c.2.2.2
def q_th (l : qL) : Nat → Bool := l.1
def q_y (l : qL) : Nat → Rat := l.2.1
def q_am (l : qL) : Nat → Int := l.2.2
def q_a (l : qL) (n : Nat) : Rat := qI (q_am l n)
/-- all stations that have just V -/
def q_S (c : qC) (l : qL) : Nat → Bool := grd (q_P c) (q_m c) 5 (q_a l) (q_y l) (q_m c) (fun _ => true)
def q_g (c : qC) (l : qL) (j : Nat) : Rat := gS (q_P c) (q_S c l) (q_m c) 5 (q_a l) (q_y l) j
def q_some (c : qC) (l : qL) : Bool := anyB (fun j => q_S c l j && decide (0 < q_g c l j)) (q_m c)
def q_fr (S : Nat → Bool) (nu : Nat → Nat) : Nat → Option Nat
  | 0 => none
  | i + 1 => if S i = true then (match q_fr S nu i with
    | none => some i
    | some f => if nu f ≤ nu i then some f else some i) else q_fr S nu i
/-- the first set that feeds -/
def q_F (c : qC) (l : qL) (j : Nat) : Bool := q_S c l j && (decide (0 < q_g c l j) || (!q_some c l && decide (q_fr (q_S c l) (q_nu c) (q_m c) = some j)))
def q_l (P : Nat → Rat) (m : Nat) (F : Nat → Bool) (x : Rat) : Option Nat := prvi (fun j => F j && decide (P j ≤ x)) m
def q_r (P : Nat → Rat) (m : Nat) (F : Nat → Bool) (x : Rat) : Option Nat := fsti (fun j => F j && decide (x ≤ P j)) 0 m
/-- volts at x, with the set F -/
def q_v (c : qC) (F : Nat → Bool) (l : qL) (x : Rat) : Rat := c.1.1 - c.1.2.1 / 1000 * sumR (fun n => q_a l n * gq ((q_l (q_P c) (q_m c) F x).map (q_P c)) ((q_r (q_P c) (q_m c) F x).map (q_P c)) x (q_y l n)) 5
def q_hi (th : Nat → Bool) (a : Nat → Int) (v : Nat → Rat) : Nat → Option Nat
  | 0 => none
  | i + 1 => if th i = true ∧ a i < 0 then (match q_hi th a v i with
    | none => some i
    | some f => if v f < v i then some i else some f) else q_hi th a v i
def q_gb (a : Nat → Int) : Nat → Option Nat
  | 0 => none
  | i + 1 => if 0 ≤ a i then q_gb a i else (match q_gb a i with
    | none => some i
    | some f => if a f ≤ a i then some f else some i)
def q_vn (c : qC) (l : qL) (n : Nat) : Rat := q_v c (q_F c l) l (q_y l n)
def q_hot (c : qC) (l : qL) : Bool := anyB (fun n => q_th l n && decide (c.1.2.2 < q_vn c l n)) 5
/-- whose amperes are taken back next -/
def q_bk (c : qC) (l : qL) : Option Nat := if 0 ≤ sumI (q_am l) 5 then (if q_hot c l = true then q_hi (q_th l) (q_am l) (q_vn c l) 5 else none) else q_gb (q_am l) 5
def q_half (l : qL) (n : Nat) : qL := (l.1, l.2.1, fun i => if i = n then (l.2.2 n).tdiv 2 else l.2.2 i)
def q_sol (c : qC) : Nat → qL → qL
  | 0, l => l
  | k + 1, l => match q_bk c l with
    | none => l
    | some n => q_sol c k (q_half l n)
/-- loads as they have become -/
def q_end (c : qC) (l : qL) : qL := q_sol c 46 l
section Cg2
variable {P Q : Nat → Rat} {m N : Nat} {a y b z : Nat → Rat}
theorem om_cg {T : Nat → Bool} {w : Rat} (h : ∀ i, i < m → P i = Q i) {j : Nat} (hj : j < m) : om P T m w j = om Q T m w j := by
  unfold om
  have e1 : (Lj T j).map P = (Lj T j).map Q := by
    cases q : Lj T j with
    | none => rfl
    | some k => have := Lj_le q; simp [h k (by omega)]
  have e2 : (Rj T m j).map P = (Rj T m j).map Q := by
    cases q : Rj T m j with
    | none => rfl
    | some k => have := Rj_ge hj q; simp [h k (by omega)]
  rw [e1, e2, h j hj]
theorem ga_cg {T : Nat → Bool} {w : Rat} (h : ∀ i, i < m → P i = Q i) {j : Nat} (hj : j < m) : ga P T m w j = ga Q T m w j := by
  unfold ga
  rw [gaR_o, gaL_o, gaR_o, gaL_o]
  have e1 : (nxti T m j).map P = (nxti T m j).map Q := by
    cases q : nxti T m j with
    | none => rfl
    | some k => have := nxti_gt q; simp [h k (by omega)]
  have e2 : (prvi T j).map P = (prvi T j).map Q := by
    cases q : prvi T j with
    | none => rfl
    | some k => have := (prvi_some q).1; simp [h k (by omega)]
  rw [e1, e2, h j hj]
theorem gS_cg {T : Nat → Bool} (h : ∀ i, i < m → P i = Q i) (ha : ∀ n, n < N → a n = b n) (hy : ∀ n, n < N → ¬ b n = 0 → y n = z n) {j : Nat} (hj : j < m) : gS P T m N a y j = gS Q T m N b z j := by
  unfold gS
  refine sumR_congr (fun n hn => ?_)
  rw [ha n hn, ga_cg h hj]
  by_cases hb : b n = 0
  · rw [hb]; grind
  · rw [hy n hn hb]
theorem vS_cg {T : Nat → Bool} (h : ∀ i, i < m → P i = Q i) (ha : ∀ n, n < N → a n = b n) (hy : ∀ n, n < N → ¬ b n = 0 → y n = z n) {j : Nat} (hj : j < m) : vS P T m N a y j = vS Q T m N b z j := by
  unfold vS
  refine sumR_congr (fun n hn => ?_)
  rw [ha n hn, om_cg h hj]
  by_cases hb : b n = 0
  · rw [hb]; grind
  · rw [hy n hn hb]
theorem gInv_cg {T : Nat → Bool} (h : ∀ i, i < m → P i = Q i) (ha : ∀ n, n < N → a n = b n) (hy : ∀ n, n < N → ¬ b n = 0 → y n = z n) (hI : gInv P m N a y T) : gInv Q m N b z T := ⟨hI.1, fun j hj hT => by rw [← vS_cg h ha hy hj]; exact hI.2 j hj hT⟩
/-- the end of the rounds is one -/
theorem end_one (hP : ∀ i k, i < k → k < m → P i < P k) {S T : Nat → Bool} (h1 : gInv P m N a y S) (h2 : ∀ j, j < m → S j = true → 0 ≤ gS P S m N a y j) (h3 : gInv P m N a y T) (h4 : ∀ j, j < m → T j = true → 0 ≤ gS P T m N a y j) : ∀ j, j < m → S j = T j := by
  have fS : fds m S (vS P S m N a y) (gS P S m N a y) := ⟨h2, fun j hj _ => gInv_le h1 j hj⟩
  have fT : fds m T (vS P T m N a y) (gS P T m N a y) := ⟨h4, fun j hj _ => gInv_le h3 j hj⟩
  have e1 := (greedy_fds hP h1 h2 h3.1).mp fT
  have e2 := (greedy_fds hP h3 h4 h1.1).mp fS
  intro j hj
  have p := (e1 j hj).1
  have q := (e2 j hj).1
  cases hS : S j <;> cases hT : T j
  · rfl
  · have := p hT; rw [hS] at this; cases this
  · have := q hS; rw [hT] at this; cases this
  · rfl
end Cg2
/-- what q_S is -/
theorem q_S_ok {c : qC} {l : qL} (hm : 0 < q_m c) (hP : ∀ i k, i < k → k < q_m c → q_P c i < q_P c k) (hs : 0 ≤ sumR (q_a l) 5) : gInv (q_P c) (q_m c) 5 (q_a l) (q_y l) (q_S c l) ∧ ∀ j, j < q_m c → q_S c l j = true → 0 ≤ q_g c l j :=
  grd_end hP hs (q_m c) (fun _ => true) ⟨⟨0, hm, rfl⟩, fun j _ h => by cases h⟩ cntB_le
theorem sumR_qa {l : qL} : sumR (q_a l) 5 = qI (sumI (q_am l) 5) := by rw [sumI_q]; rfl
theorem q_fr_some {S : Nat → Bool} {nu : Nat → Nat} : ∀ {i f : Nat}, q_fr S nu i = some f → f < i ∧ S f = true ∧ ∀ j, j < i → S j = true → nu f ≤ nu j := by
  intro i
  induction i with
  | zero => intro f h; cases h
  | succ i ih =>
    intro f h
    rw [q_fr] at h
    by_cases hc : S i = true
    · rw [if_pos hc] at h
      cases hq : q_fr S nu i with
      | none =>
        rw [hq] at h
        cases h
        refine ⟨by omega, hc, fun j hj hS => ?_⟩
        by_cases hji : j = i
        · subst hji; exact Nat.le_refl _
        · exfalso
          have key : ∀ k, q_fr S nu k = none → ∀ j, j < k → S j = false := by
            intro k
            induction k with
            | zero => intro _ j hj; omega
            | succ k ihk =>
              intro hn j hj
              rw [q_fr] at hn
              by_cases hck : S k = true
              · rw [if_pos hck] at hn
                split at hn
                · cases hn
                · split at hn <;> cases hn
              · rw [if_neg hck] at hn
                by_cases hjk : j = k
                · subst hjk; simpa using hck
                · exact ihk hn j (by omega)
          have := key i hq j (by omega)
          rw [hS] at this; cases this
      | some g =>
        rw [hq] at h
        dsimp only at h
        obtain ⟨g1, g2, g3⟩ := ih hq
        by_cases hle : nu g ≤ nu i
        · rw [if_pos hle] at h
          cases h
          refine ⟨by omega, g2, fun j hj hS => ?_⟩
          by_cases hji : j = i
          · subst hji; exact hle
          · exact g3 j (by omega) hS
        · rw [if_neg hle] at h
          cases h
          refine ⟨by omega, hc, fun j hj hS => ?_⟩
          by_cases hji : j = i
          · subst hji; exact Nat.le_refl _
          · have := g3 j (by omega) hS; omega
    · rw [if_neg hc] at h
      obtain ⟨g1, g2, g3⟩ := ih h
      refine ⟨by omega, g2, fun j hj hS => ?_⟩
      by_cases hji : j = i
      · subst hji; exact absurd hS hc
      · exact g3 j (by omega) hS
theorem q_fr_none {S : Nat → Bool} {nu : Nat → Nat} : ∀ {k : Nat}, q_fr S nu k = none → ∀ j, j < k → S j = false := by
  intro k
  induction k with
  | zero => intro _ j hj; omega
  | succ k ihk =>
    intro hn j hj
    rw [q_fr] at hn
    by_cases hck : S k = true
    · rw [if_pos hck] at hn
      split at hn
      · cases hn
      · split at hn <;> cases hn
    · rw [if_neg hck] at hn
      by_cases hjk : j = k
      · subst hjk; simpa using hck
      · exact ihk hn j (by omega)
theorem q_fr_cg {S T : Nat → Bool} {nu mu : Nat → Nat} : ∀ {k : Nat}, (∀ j, j < k → S j = T j ∧ nu j = mu j) → q_fr S nu k = q_fr T mu k := by
  intro k
  induction k with
  | zero => intro _; rfl
  | succ k ih =>
    intro h
    have e := ih (fun j hj => h j (by omega))
    rw [q_fr, q_fr, e, (h k (by omega)).1]
    cases hq : q_fr T mu k with
    | none => rfl
    | some f =>
      have := (q_fr_some hq).1
      dsimp only
      rw [(h k (by omega)).2, (h f (by omega)).2]
/-- the first set: it feeds -/
theorem q_F_ok {c : qC} {l : qL} (hm : 0 < q_m c) (hP : ∀ i k, i < k → k < q_m c → q_P c i < q_P c k) (hs : 0 ≤ sumR (q_a l) 5) : (∃ j, j < q_m c ∧ q_F c l j = true) ∧ ∀ j, j < q_m c → (q_F c l j = true → q_S c l j = true) ∧ (q_S c l j = true → 0 < q_g c l j → q_F c l j = true) := by
  obtain ⟨h1, h2⟩ := q_S_ok hm hP hs
  refine ⟨?_, fun j hj => ⟨fun h => ?_, fun h3 h4 => ?_⟩⟩
  · cases hsm : q_some c l with
    | true =>
      obtain ⟨j, hj, h3⟩ := anyB_iff.mp hsm
      rw [Bool.and_eq_true, decide_eq_true_eq] at h3
      exact ⟨j, hj, by unfold q_F; simp [h3.1, h3.2]⟩
    | false =>
      cases hf : q_fr (q_S c l) (q_nu c) (q_m c) with
      | none =>
        exfalso
        obtain ⟨j, hj, hS⟩ := h1.1
        have := q_fr_none hf j hj
        rw [hS] at this; cases this
      | some f =>
        obtain ⟨f1, f2, _⟩ := q_fr_some hf
        exact ⟨f, f1, by unfold q_F; simp [f2, hsm, hf]⟩
  · unfold q_F at h
    rw [Bool.and_eq_true] at h
    exact h.1
  · unfold q_F
    simp [h3, h4]
