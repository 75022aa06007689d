/-! THE REFERENCE'S CELLS AND THE CIRCUIT WITHOUT CELLS: volts, what is given -/
def rS (q : Nat → Nat → Int32) (n I : Nat) (c : qC) : Prop := q 61 3 = nI n ∧ n ≤ 5 ∧ (∀ s, s < n → bd (q 64 s)) ∧ inF q n = nI I ∧ I < 2 ^ n ∧ q_m c ≤ 5 ∧ (∀ j, j < q_m c → q_nu c j < n ∧ qI (mP q (q_nu c j)) = q_P c j ∧ bt (nI I) (q_nu c j) = true) ∧ (∀ s, s < n → bt (nI I) s = true → ∃ j, j < q_m c ∧ q_nu c j = s) ∧ ∀ i k, i < k → k < q_m c → q_P c i < q_P c k
def rR (q : Nat → Nat → Int32) (c : qC) : Prop := (qI (q 62 2).toInt = c.1.1 ∧ qI (q 62 1).toInt = c.1.2.1 ∧ qI (q 62 3).toInt = c.1.2.2) ∧ (q 62 2).toInt.natAbs ≤ 2000 ∧ (q 62 1).toInt.natAbs ≤ 20 ∧ (q 62 3).toInt.natAbs ≤ 3000 ∧ (q 62 2).toInt ≤ (q 62 3).toInt ∧ 0 < (q 62 1).toInt
def rL (q : Nat → Nat → Int32) (K : Nat) (l : qL) : Prop := q 61 15 = nI K ∧ K = cntB (q_th l) 5 ∧ ∀ n, n < 5 → (q_th l n = true → bd (q 73 (cntB (q_th l) n)) ∧ qI (mY q (cntB (q_th l) n)) = q_y l n ∧ mA q (cntB (q_th l) n) = q_am l n) ∧ (q_am l n).natAbs ≤ 100000 ∧ (q_th l n = false → q_am l n = 0)
/-- a set of stations that are in -/
def rT (q : Nat → Nat → Int32) (n I : Nat) (c : qC) (set : Int32) (T : Nat → Bool) : Prop := (∀ s, s < n → bt set s = true → bt (nI I) s = true) ∧ ∀ j, j < q_m c → T j = bt set (q_nu c j)
theorem cntB_step {f : Nat → Bool} {n : Nat} (h : f n = true) : cntB f (n + 1) = cntB f n + 1 := by rw [cntB, if_pos h]
theorem cntB_skip {f : Nat → Bool} {n : Nat} (h : f n = false) : cntB f (n + 1) = cntB f n := by rw [cntB, if_neg (by simp [h])]
theorem cntB_m {f : Nat → Bool} : ∀ {a b : Nat}, a ≤ b → cntB f a ≤ cntB f b := by
  intro a b h
  obtain ⟨k, rfl⟩ : ∃ k, b = a + k := ⟨b - a, by omega⟩
  clear h
  induction k with
  | zero => exact Nat.le_refl _
  | succ k ih =>
    rw [show a + (k + 1) = a + k + 1 by omega, cntB]
    split <;> omega
theorem cntB_in {f : Nat → Bool} {n N : Nat} (h : f n = true) (hn : n < N) : cntB f n < cntB f N := by
  have h1 := cntB_step h
  have h2 := cntB_m (f := f) (show n + 1 ≤ N by omega)
  omega
/-- the k-th of them -/
theorem cntB_at {f : Nat → Bool} : ∀ {N k : Nat}, k < cntB f N → ∃ n, n < N ∧ f n = true ∧ cntB f n = k := by
  intro N
  induction N with
  | zero => intro k h; exact absurd h (Nat.not_lt_zero _)
  | succ N ih =>
    intro k h
    rw [cntB] at h
    by_cases hf : f N = true
    · rw [if_pos hf] at h
      by_cases hk : k = cntB f N
      · exact ⟨N, by omega, hf, hk.symm⟩
      · obtain ⟨n, h1, h2, h3⟩ := ih (show k < cntB f N by omega)
        exact ⟨n, by omega, h2, h3⟩
    · rw [if_neg hf] at h
      obtain ⟨n, h1, h2, h3⟩ := ih h
      exact ⟨n, by omega, h2, h3⟩
theorem rsum {F : Nat → Int} {a w : Nat → Rat} {k : Rat} {th : Nat → Bool} : ∀ {N : Nat}, (∀ n, n < N → (th n = true → qI (F (cntB th n)) = a n * w n * k) ∧ (th n = false → a n = 0)) → qI (sumI F (cntB th N)) = k * sumR (fun n => a n * w n) N := by
  intro N
  induction N with
  | zero => intro _; show qI 0 = k * 0; rw [qI_0]; grind
  | succ N ih =>
    intro h
    have e := ih (fun n hn => h n (by omega))
    cases ht : th N with
    | true =>
      rw [cntB_step ht, sumI, sumR, qI_add, e, (h N (by omega)).1 ht]
      grind
    | false =>
      rw [cntB_skip ht, sumR, e, (h N (by omega)).2 ht]
      grind
section Rv
variable {q : Nat → Nat → Int32} {n I K : Nat} {c : qC} {l : qL} {set x : Int32} {T : Nat → Bool}
theorem r_y (hL : rL q K l) : ∀ k, k < K → bd (q 73 k) := by
  intro k hk
  rw [hL.2.1] at hk
  obtain ⟨i, h1, h2, h3⟩ := cntB_at hk
  have := ((hL.2.2 i h1).1 h2).1
  rwa [h3] at this
theorem r_K (hL : rL q K l) : K ≤ 5 := by rw [hL.2.1]; exact cntB_le
theorem r_pl (hS : rS q n I c) {j : Nat} (hj : j < q_m c) (x : Int32) : ((q 64 (q_nu c j) ≤ x) ↔ q_P c j ≤ qI x.toInt) ∧ ((x ≤ q 64 (q_nu c j)) ↔ qI x.toInt ≤ q_P c j) := by
  obtain ⟨s1, s2, s3, s4, s5, s6, s7, s8, s9⟩ := hS
  rw [← (s7 j hj).2.1]
  unfold mP
  rw [qI_le, qI_le, Int32.le_iff_toInt_le, Int32.le_iff_toInt_le]
  exact ⟨Iff.rfl, Iff.rfl⟩
theorem P_inj (hS : rS q n I c) {i j : Nat} (hi : i < q_m c) (hj : j < q_m c) (h : q_P c i = q_P c j) : i = j := by
  have s9 := hS.2.2.2.2.2.2.2.2
  rcases (show i < j ∨ i = j ∨ j < i by omega) with z | z | z
  · have := s9 i j z hj; grind
  · exact z
  · have := s9 j i z hi; grind
theorem P_mono (hS : rS q n I c) {i j : Nat} (hij : i ≤ j) (hj : j < q_m c) : q_P c i ≤ q_P c j := by
  by_cases h : i = j
  · subst h; exact Rat.le_refl
  · have := hS.2.2.2.2.2.2.2.2 i j (by omega) hj; grind
/-- neighbours: by number s = nu j -/
theorem r_nbL (hS : rS q n I c) (hT : rT q n I c set T) : (q_l (q_P c) (q_m c) T (qI x.toInt) = none ∧ nbL q set x n = none) ∨ ∃ j, j < q_m c ∧ q_l (q_P c) (q_m c) T (qI x.toInt) = some j ∧ nbL q set x n = some (q_nu c j) := by
  obtain ⟨s1, s2, s3, s4, s5, s6, s7, s8, s9⟩ := id hS
  cases h1 : nbL q set x n with
  | none =>
    left
    refine ⟨?_, rfl⟩
    cases h2 : q_l (q_P c) (q_m c) T (qI x.toInt) with
    | none => rfl
    | some j =>
      exfalso
      obtain ⟨g1, g2, _⟩ := prvi_some h2
      simp only [Bool.and_eq_true, decide_eq_true_eq] at g2
      exact nbL_none h1 (q_nu c j) (s7 j g1).1 ⟨by rw [← hT.2 j g1]; exact g2.1, (r_pl hS g1 x).1.mpr g2.2⟩
  | some s =>
    right
    obtain ⟨k1, k2, k3, k4⟩ := nbL_some h1
    obtain ⟨j, hj, rfl⟩ := s8 s k1 (hT.1 s k1 k2)
    have hTj : T j = true := by rw [hT.2 j hj]; exact k2
    have hPj := (r_pl hS hj x).1.mp k3
    refine ⟨j, hj, ?_, rfl⟩
    cases h2 : q_l (q_P c) (q_m c) T (qI x.toInt) with
    | none =>
      have := prvi_none h2 j hj
      simp [hTj, hPj] at this
    | some i =>
      obtain ⟨g1, g2, g3⟩ := prvi_some h2
      simp only [Bool.and_eq_true, decide_eq_true_eq] at g2
      have hle : ¬ i < j := fun z => by have := g3 j z hj; simp [hTj, hPj] at this
      have h5 := k4 (q_nu c i) (s7 i g1).1 (by rw [← hT.2 i g1]; exact g2.1) ((r_pl hS g1 x).1.mpr g2.2)
      have h6 := (r_pl hS g1 (q 64 (q_nu c j))).1.mp h5
      have h7 : qI (q 64 (q_nu c j)).toInt = q_P c j := (s7 j hj).2.1
      rw [h7] at h6
      have h8 := P_mono hS (show j ≤ i by omega) g1
      rw [P_inj hS g1 hj (by grind)]
theorem r_nbR (hS : rS q n I c) (hT : rT q n I c set T) : (q_r (q_P c) (q_m c) T (qI x.toInt) = none ∧ nbR q set x n = none) ∨ ∃ j, j < q_m c ∧ q_r (q_P c) (q_m c) T (qI x.toInt) = some j ∧ nbR q set x n = some (q_nu c j) := by
  obtain ⟨s1, s2, s3, s4, s5, s6, s7, s8, s9⟩ := id hS
  cases h1 : nbR q set x n with
  | none =>
    left
    refine ⟨?_, rfl⟩
    cases h2 : q_r (q_P c) (q_m c) T (qI x.toInt) with
    | none => rfl
    | some j =>
      exfalso
      obtain ⟨_, g1, g2, _⟩ := fsti_some h2
      have g1 : j < q_m c := by omega
      simp only [Bool.and_eq_true, decide_eq_true_eq] at g2
      exact nbR_none h1 (q_nu c j) (s7 j g1).1 ⟨by rw [← hT.2 j g1]; exact g2.1, (r_pl hS g1 x).2.mpr g2.2⟩
  | some s =>
    right
    obtain ⟨k1, k2, k3, k4⟩ := nbR_some h1
    obtain ⟨j, hj, rfl⟩ := s8 s k1 (hT.1 s k1 k2)
    have hTj : T j = true := by rw [hT.2 j hj]; exact k2
    have hPj := (r_pl hS hj x).2.mp k3
    refine ⟨j, hj, ?_, rfl⟩
    cases h2 : q_r (q_P c) (q_m c) T (qI x.toInt) with
    | none =>
      have := fsti_none h2 j (by omega) (by omega)
      simp [hTj, hPj] at this
    | some i =>
      obtain ⟨_, g1, g2, g3⟩ := fsti_some h2
      have g1 : i < q_m c := by omega
      simp only [Bool.and_eq_true, decide_eq_true_eq] at g2
      have hle : ¬ j < i := fun z => by have := g3 j (by omega) z; simp [hTj, hPj] at this
      have h5 := k4 (q_nu c i) (s7 i g1).1 (by rw [← hT.2 i g1]; exact g2.1) ((r_pl hS g1 x).2.mpr g2.2)
      have h6 := (r_pl hS g1 (q 64 (q_nu c j))).2.mp h5
      have h7 : qI (q 64 (q_nu c j)).toInt = q_P c j := (s7 j hj).2.1
      rw [h7] at h6
      have h8 := P_mono hS (show i ≤ j by omega) hj
      rw [P_inj hS g1 hj (by grind)]
theorem v_alg2 {V R : Int} {d lo : Int} {s : Rat} (h : 1000 * qI lo = qI d * s) : qI (V * d - R * lo) = (qI V - qI R / 1000 * s) * qI d := by
  rw [qI_sub, qI_mul, qI_mul]
  have : qI lo = qI d * s / 1000 := by rw [← h]; grind
  rw [this]
  grind
/-- volts -/
theorem r_volt (hS : rS q n I c) (hR : rR q c) (hL : rL q K l) (hT : rT q n I c set T) : qI (vlu q K n set x) = q_v c T l (qI x.toInt) * qI (vld q n set x) ∧ 0 < vld q n set x ∧ vld q n set x ≤ 200000 := by
  obtain ⟨s1, s2, s3, s4, s5, s6, s7, s8, s9⟩ := id hS
  have hb : ∀ j, j < q_m c → 0 ≤ mP q (q_nu c j) ∧ mP q (q_nu c j) ≤ 200 := fun j hj => s3 _ (s7 j hj).1
  unfold vlu vld fvU
  unfold q_v
  rw [← hR.1.1, ← hR.1.2.1]
  have rs : ∀ (F : Nat → Int) (w z : Option Rat) (k : Rat), (∀ i, i < 5 → q_th l i = true → qI (F (cntB (q_th l) i)) = q_a l i * gq w z (qI x.toInt) (q_y l i) * k) → qI (sumI F K) = k * sumR (fun n => q_a l n * gq w z (qI x.toInt) (q_y l n)) 5 := fun F w z k h => by
    rw [hL.2.1]
    refine rsum (fun i hi => ⟨h i hi, fun ht => ?_⟩)
    unfold q_a
    rw [(hL.2.2 i hi).2.2 ht, qI_0]
  have qA : ∀ i, i < 5 → q_th l i = true → mA q (cntB (q_th l) i) = q_am l i ∧ qI (mY q (cntB (q_th l) i)) = q_y l i := fun i hi ht => ⟨((hL.2.2 i hi).1 ht).2.2, ((hL.2.2 i hi).1 ht).2.1⟩
  rcases r_nbL (x := x) hS hT with ⟨a1, a2⟩ | ⟨p, p1, a1, a2⟩
  · rcases r_nbR (x := x) hS hT with ⟨b1, b2⟩ | ⟨r, r1, b1, b2⟩
    · rw [a1, a2, b1, b2]
      refine ⟨v_alg2 ?_, by show (0 : Int) < 1000; decide, by show (1000 : Int) ≤ 200000; decide⟩
      show 1000 * qI 0 = qI 1000 * sumR (fun n => q_a l n * gq none none (qI x.toInt) (q_y l n)) 5
      rw [sumR_z (fun n _ => by rw [gq_nn]; grind), qI_0]
      grind
    · have hlt : x.toInt < mP q (q_nu c r) := by
        obtain ⟨_, g2, g3, _⟩ := fsti_some b1
        simp only [Bool.and_eq_true, decide_eq_true_eq] at g3
        have := prvi_none a1 r r1
        rw [← qI_lt, (s7 r r1).2.1]
        simp [g3.1] at this
        grind
      rw [a1, a2, b1, b2]
      refine ⟨v_alg2 ?_, by show (0 : Int) < 1000; decide, by show (1000 : Int) ≤ 200000; decide⟩
      show 1000 * qI (sumI (fun k => tmY true (mY q k) (mA q k) (mP q (q_nu c r)) x.toInt) K) = qI 1000 * sumR (fun n => q_a l n * gq none (some (q_P c r)) (qI x.toInt) (q_y l n)) 5
      rw [rs _ none (some (q_P c r)) 1 (fun i hi ht => by
        obtain ⟨e1, e2⟩ := qA i hi ht
        rw [tmY_q2 hlt, e1, e2, (s7 r r1).2.1, if_pos rfl]
        unfold q_a
        grind)]
      have : qI 1000 = 1000 := rfl
      rw [this]
      grind
  · obtain ⟨_, p2, _⟩ := prvi_some a1
    simp only [Bool.and_eq_true, decide_eq_true_eq] at p2
    have hpx : mP q (q_nu c p) ≤ x.toInt := by rw [← qI_le, (s7 p p1).2.1]; exact p2.2
    rcases r_nbR (x := x) hS hT with ⟨b1, b2⟩ | ⟨r, r1, b1, b2⟩
    · have hlt : mP q (q_nu c p) < x.toInt := by
        have := fsti_none b1 p (by omega) (by omega)
        rw [← qI_lt, (s7 p p1).2.1]
        simp [p2.1] at this
        grind
      rw [a1, a2, b1, b2]
      refine ⟨v_alg2 ?_, by show (0 : Int) < 1000; decide, by show (1000 : Int) ≤ 200000; decide⟩
      show 1000 * qI (sumI (fun k => tmY true (mY q k) (mA q k) (mP q (q_nu c p)) x.toInt) K) = qI 1000 * sumR (fun n => q_a l n * gq (some (q_P c p)) none (qI x.toInt) (q_y l n)) 5
      rw [rs _ (some (q_P c p)) none 1 (fun i hi ht => by
        obtain ⟨e1, e2⟩ := qA i hi ht
        rw [tmY_q hlt, e1, e2, (s7 p p1).2.1, if_pos rfl]
        unfold q_a
        grind)]
      have : qI 1000 = 1000 := rfl
      rw [this]
      grind
    · obtain ⟨_, g2, g3, g4⟩ := fsti_some b1
      simp only [Bool.and_eq_true, decide_eq_true_eq] at g3
      have hxr : x.toInt ≤ mP q (q_nu c r) := by rw [← qI_le, (s7 r r1).2.1]; exact g3.2
      have hrp : ¬ r < p := fun z => by
        have := s9 r p z p1
        have := p2.2
        have := g3.2
        grind
      rw [a1, a2, b1, b2]
      by_cases h3 : p < r
      · have hlt : mP q (q_nu c p) < mP q (q_nu c r) := by rw [← qI_lt, (s7 r r1).2.1, (s7 p p1).2.1]; exact s9 p r h3 r1
        have eD : fvD q (some (q_nu c p)) (some (q_nu c r)) = 1000 * (mP q (q_nu c r) - mP q (q_nu c p)) := by
          show (if mP q (q_nu c p) = mP q (q_nu c r) then 1 else _) = _
          rw [if_neg (by omega)]
        have b2 := hb p p1
        have b3 := hb r r1
        rw [eD]
        refine ⟨v_alg2 ?_, by omega, by omega⟩
        show 1000 * qI (sumI (fun k => tmB true (mY q k) (mA q k) (mP q (q_nu c p)) (mP q (q_nu c r)) x.toInt) K) = qI (1000 * (mP q (q_nu c r) - mP q (q_nu c p))) * sumR (fun n => q_a l n * gq (some (q_P c p)) (some (q_P c r)) (qI x.toInt) (q_y l n)) 5
        rw [rs _ (some (q_P c p)) (some (q_P c r)) (qI (mP q (q_nu c r) - mP q (q_nu c p))) (fun i hi ht => by
          obtain ⟨e1, e2⟩ := qA i hi ht
          rw [tmB_q hlt hpx hxr, e1, e2, (s7 p p1).2.1, (s7 r r1).2.1, if_pos rfl]
          rfl), qI_mul]
        have : qI 1000 = 1000 := rfl
        rw [this]
        grind
      · have e : p = r := by omega
        subst e
        have eD : fvD q (some (q_nu c p)) (some (q_nu c p)) = 1 := by
          show (if mP q (q_nu c p) = mP q (q_nu c p) then 1 else _) = _
          rw [if_pos rfl]
        have eS : fvS q K x.toInt (some (q_nu c p)) (some (q_nu c p)) = 0 := by
          show sumI (fun k => tmB true (mY q k) (mA q k) (mP q (q_nu c p)) (mP q (q_nu c p)) x.toInt) K = 0
          have : ∀ N, sumI (fun k => tmB true (mY q k) (mA q k) (mP q (q_nu c p)) (mP q (q_nu c p)) x.toInt) N = 0 := by
            intro N
            induction N with
            | zero => rfl
            | succ N ih =>
              have e0 : tmB true (mY q N) (mA q N) (mP q (q_nu c p)) (mP q (q_nu c p)) x.toInt = 0 := by unfold tmB; rw [if_neg (by omega)]
              rw [sumI, ih, e0]; rfl
          exact this K
        rw [eD, eS]
        refine ⟨v_alg2 ?_, by decide, by decide⟩
        show 1000 * qI 0 = qI 1 * sumR (fun n => q_a l n * gq (some (q_P c p)) (some (q_P c p)) (qI x.toInt) (q_y l n)) 5
        rw [sumR_z (fun n _ => by rw [gq_same]; grind), qI_0, qI_1]
        grind
end Rv
