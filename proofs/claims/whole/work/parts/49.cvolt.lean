/-! VOLTS AS A SHARE -/
theorem qI_min {a b : Int} : qI (min a b) = if qI a ≤ qI b then qI a else qI b := by
  by_cases h : a ≤ b
  · rw [if_pos (qI_le.mpr h), show min a b = a by omega]
  · rw [if_neg (fun z => h (qI_le.mp z)), show min a b = b by omega]
theorem tmB_q {th : Bool} {y A a b x : Int} (hab : a < b) (hxa : a ≤ x) (hxb : x ≤ b) : qI (tmB th y A a b x) = (if th = true then qI A else 0) * gq (some (qI a)) (some (qI b)) (qI x) (qI y) * qI (b - a) := by
  unfold tmB gq
  dsimp only
  have h0 : qI a < qI b := qI_lt.mpr hab
  by_cases ht : th = true
  · by_cases h1 : a < y ∧ y < b
    · have h2 : qI a < qI y ∧ qI y < qI b := ⟨qI_lt.mpr h1.1, qI_lt.mpr h1.2⟩
      rw [if_pos ⟨ht, h1⟩, if_pos ht, if_pos h2]
      have hz : qI b - qI a ≠ 0 := by grind
      by_cases h3 : x ≤ y
      · rw [if_pos (qI_le.mpr h3), show min x y = x by omega, show max x y = y by omega, qI_mul, qI_mul, qI_sub, qI_sub, qI_sub]
        grind
      · rw [if_neg (fun z => h3 (qI_le.mp z)), show min x y = y by omega, show max x y = x by omega, qI_mul, qI_mul, qI_sub, qI_sub, qI_sub]
        grind
    · rw [if_neg (fun z => h1 z.2), if_neg (show ¬ (qI a < qI y ∧ qI y < qI b) from fun z => h1 ⟨qI_lt.mp z.1, qI_lt.mp z.2⟩), qI_0]
      grind
  · rw [if_neg (fun z => ht z.1), if_neg ht, qI_0]
    grind
theorem tmY_q {th : Bool} {y A a x : Int} (hxa : a < x) : qI (tmY th y A a x) = (if th = true then qI A else 0) * gq (some (qI a)) none (qI x) (qI y) := by
  unfold tmY gq
  dsimp only
  by_cases ht : th = true
  · by_cases h1 : a < y
    · have h2 : qI a < qI y := qI_lt.mpr h1
      rw [if_pos ⟨ht, by omega⟩, if_pos ht, if_pos h2]
      by_cases h3 : x ≤ y
      · rw [if_pos (qI_le.mpr h3), show min (max (x - a) (a - x)) (max (y - a) (a - y)) = x - a by omega, qI_mul, qI_sub]
      · rw [if_neg (fun z => h3 (qI_le.mp z)), show min (max (x - a) (a - x)) (max (y - a) (a - y)) = y - a by omega, qI_mul, qI_sub]
    · rw [if_neg (fun z => by omega), if_neg (show ¬ qI a < qI y from fun z => h1 (qI_lt.mp z)), qI_0]
      grind
  · rw [if_neg (fun z => ht z.1), if_neg ht, qI_0]
    grind
theorem tmY_q2 {th : Bool} {y A a x : Int} (hxa : x < a) : qI (tmY th y A a x) = (if th = true then qI A else 0) * gq none (some (qI a)) (qI x) (qI y) := by
  unfold tmY gq
  dsimp only
  by_cases ht : th = true
  · by_cases h1 : y < a
    · have h2 : qI y < qI a := qI_lt.mpr h1
      rw [if_pos ⟨ht, by omega⟩, if_pos ht, if_pos h2]
      by_cases h3 : x ≤ y
      · rw [if_pos (qI_le.mpr h3), show min (max (x - a) (a - x)) (max (y - a) (a - y)) = a - y by omega, qI_mul, qI_sub]
      · rw [if_neg (fun z => h3 (qI_le.mp z)), show min (max (x - a) (a - x)) (max (y - a) (a - y)) = a - x by omega, qI_mul, qI_sub]
    · rw [if_neg (show ¬ qI y < qI a from fun z => h1 (qI_lt.mp z))]
      by_cases h4 : a < y
      · rw [if_neg (fun z => by omega), qI_0]; grind
      · rw [if_pos ⟨ht, by omega⟩, show min (max (x - a) (a - x)) (max (y - a) (a - y)) = 0 by omega, Int.mul_zero, qI_0]; grind
  · rw [if_neg (fun z => ht z.1), if_neg ht, qI_0]
    grind
theorem gq_same {a x y : Rat} : gq (some a) (some a) x y = 0 := by
  unfold gq
  dsimp only
  rw [if_neg (by grind)]
theorem gq_nn {x y : Rat} : gq none none x y = 0 := rfl
/-- sums of loads -/
theorem sum_q {f : Nat → Int} {a w : Nat → Rat} {k : Rat} : ∀ {N : Nat}, (∀ n, n < N → qI (f n) = a n * w n * k) → qI (sumI f N) = k * sumR (fun n => a n * w n) N := by
  intro N
  induction N with
  | zero => intro _; rw [sumI, sumR, qI_0]; grind
  | succ N ih =>
    intro h
    rw [sumI, sumR, qI_add, ih (fun n hn => h n (by omega)), h N (by omega)]
    grind
theorem sumR_z {f : Nat → Rat} : ∀ {N : Nat}, (∀ n, n < N → f n = 0) → sumR f N = 0 := by
  intro N
  induction N with
  | zero => intro _; rfl
  | succ N ih => intro h; rw [sumR, ih (fun n hn => h n (by omega)), h N (by omega)]; grind
section Cv
variable {q : Nat → Nat → Int32} {c : qC} {l : qL} {F : Nat → Bool} {x : Int32}
theorem bfV_q (hS : cS q c) (hF : ∀ j, j < q_m c → cF q j = F j) : ∀ i, i ≤ q_m c → bfV q x i = prvi (fun j => F j && decide (q_P c j ≤ qI x.toInt)) i := by
  intro i
  induction i with
  | zero => intro _; rfl
  | succ i ih =>
    intro hi
    have e : (q 36 i ≤ x) ↔ q_P c i ≤ qI x.toInt := by rw [← c_P hS i (by omega)]; unfold qP cP; rw [qI_le, Int32.le_iff_toInt_le]
    rw [bfV, prvi, ih (by omega), hF i (by omega)]
    by_cases h1 : F i = true
    · by_cases h2 : q 36 i ≤ x
      · rw [if_pos ⟨h1, h2⟩, if_pos (by simp [h1, e.mp h2])]
      · rw [if_neg (fun z => h2 z.2), if_neg (fun z => by simp only [Bool.and_eq_true, decide_eq_true_eq] at z; exact h2 (e.mpr z.2))]
    · rw [if_neg (fun z => h1 z.1), if_neg (fun z => by simp only [Bool.and_eq_true, decide_eq_true_eq] at z; exact h1 z.1)]
theorem afV_q (hS : cS q c) (hF : ∀ j, j < q_m c → cF q j = F j) : afV q x (q_m c) = q_r (q_P c) (q_m c) F (qI x.toInt) := by
  have e : ∀ i, i < q_m c → ((x ≤ q 36 i) ↔ qI x.toInt ≤ q_P c i) := fun i hi => by rw [← c_P hS i hi]; unfold qP cP; rw [qI_le, Int32.le_iff_toInt_le]
  unfold q_r
  cases h1 : afV q x (q_m c) with
  | none =>
    cases h2 : fsti (fun j => F j && decide (qI x.toInt ≤ q_P c j)) 0 (q_m c) with
    | none => rfl
    | some j =>
      obtain ⟨_, g2, g3, _⟩ := fsti_some h2
      simp only [Bool.and_eq_true, decide_eq_true_eq] at g3
      exact absurd ⟨by rw [hF j (by omega)]; exact g3.1, (e j (by omega)).mpr g3.2⟩ (afV_none h1 j (by omega))
  | some i =>
    obtain ⟨k1, k2, k3, k4⟩ := afV_some h1
    cases h2 : fsti (fun j => F j && decide (qI x.toInt ≤ q_P c j)) 0 (q_m c) with
    | none =>
      have := fsti_none h2 i (by omega) (by omega)
      rw [← hF i k1, k2] at this
      have h5 := (e i k1).mp k3
      simp [h5] at this
    | some j =>
      obtain ⟨_, g2, g3, g4⟩ := fsti_some h2
      simp only [Bool.and_eq_true, decide_eq_true_eq] at g3
      have hij : ¬ j < i := fun z => k4 j z ⟨by rw [hF j (by omega)]; exact g3.1, (e j (by omega)).mpr g3.2⟩
      have hji : ¬ i < j := fun z => by
        have := g4 i (by omega) z
        rw [← hF i k1, k2] at this
        have h5 := (e i k1).mp k3
        simp [h5] at this
      rw [show i = j by omega]
theorem v_alg {V R : Int} {g lo : Int} {s : Rat} (h : qI lo = qI g * s) : qI (1000 * V * g - R * lo) = (qI V - qI R / 1000 * s) * qI (1000 * g) := by
  rw [qI_sub, qI_mul, qI_mul, qI_mul, qI_mul, h]
  have : qI 1000 = 1000 := rfl
  rw [this]
  grind
theorem c_volt (hS : cS q c) (hR : cR q c) (hL : cL q l) (hF : ∀ j, j < q_m c → cF q j = F j) (hx : bd x) : qI (vUp q (q_m c) x) = q_v c F l (qI x.toInt) * qI (vDn q (q_m c) x) := by
  have hb := bfV_q (x := x) hS hF (q_m c) (Nat.le_refl _)
  have ha := afV_q (x := x) hS hF
  unfold vUp vDn q_v
  rw [hb, ha]
  show qI _ = (c.1.1 - c.1.2.1 / 1000 * sumR (fun n => q_a l n * gq ((q_l (q_P c) (q_m c) F (qI x.toInt)).map (q_P c)) ((q_r (q_P c) (q_m c) F (qI x.toInt)).map (q_P c)) (qI x.toInt) (q_y l n)) 5) * _
  rw [← hR.1.1, ← hR.1.2.1]
  have hl : prvi (fun j => F j && decide (q_P c j ≤ qI x.toInt)) (q_m c) = q_l (q_P c) (q_m c) F (qI x.toInt) := rfl
  rw [hl]
  refine v_alg ?_
  have tm : ∀ n, n < 5 → (if cTh q n = true then qI (cA q n) else 0) = q_a l n := fun n hn => c_a hL n hn
  have yy : ∀ n (w : Option Rat) (z : Option Rat), n < 5 → q_a l n * gq w z (qI x.toInt) (qI (cY q n)) = q_a l n * gq w z (qI x.toInt) (q_y l n) := fun n w z hn => by
    by_cases h0 : q_a l n = 0
    · rw [h0]; grind
    · rw [← c_y hL n hn h0]; rfl
  cases h1 : q_l (q_P c) (q_m c) F (qI x.toInt) with
  | none =>
    cases h2 : q_r (q_P c) (q_m c) F (qI x.toInt) with
    | none =>
      show qI 0 = qI 1 * sumR (fun n => q_a l n * gq none none (qI x.toInt) (q_y l n)) 5
      rw [sumR_z (fun n _ => by rw [gq_nn]; grind), qI_0, qI_1]
      grind
    | some p =>
      obtain ⟨_, g2, g3, _⟩ := fsti_some h2
      simp only [Bool.and_eq_true, decide_eq_true_eq] at g3
      have g1 := prvi_none h1 p (by omega)
      have hxp : x.toInt < cP q p := by
        rw [← qI_lt]
        show _ < qP q p
        rw [c_P hS p (by omega)]
        rw [g3.1] at g1
        simp at g1
        grind
      show qI (losB q (cP q p) x.toInt) = qI 1 * sumR (fun n => q_a l n * gq none (some (q_P c p)) (qI x.toInt) (q_y l n)) 5
      unfold losB
      refine sum_q (fun n hn => ?_)
      rw [tmY_q2 hxp, tm n hn, yy n _ _ hn, qI_1]
      show _ * gq none (some (qP q p)) _ _ = _
      rw [c_P hS p (by omega)]
      grind
  | some p =>
    obtain ⟨p1, p2, _⟩ := prvi_some h1
    simp only [Bool.and_eq_true, decide_eq_true_eq] at p2
    have hpx : cP q p ≤ x.toInt := by
      rw [← qI_le]
      show qP q p ≤ _
      rw [c_P hS p p1]; exact p2.2
    cases h2 : q_r (q_P c) (q_m c) F (qI x.toInt) with
    | none =>
      have g1 := fsti_none h2 p (by omega) (by omega)
      have hxp : cP q p < x.toInt := by
        rw [← qI_lt]
        show qP q p < _
        rw [c_P hS p p1]
        rw [p2.1] at g1
        simp at g1
        grind
      show qI (losB q (cP q p) x.toInt) = qI 1 * sumR (fun n => q_a l n * gq (some (q_P c p)) none (qI x.toInt) (q_y l n)) 5
      unfold losB
      refine sum_q (fun n hn => ?_)
      rw [tmY_q hxp, tm n hn, yy n _ _ hn, qI_1]
      show _ * gq (some (qP q p)) none _ _ = _
      rw [c_P hS p p1]
      grind
    | some r =>
      obtain ⟨_, g2, g3, g4⟩ := fsti_some h2
      simp only [Bool.and_eq_true, decide_eq_true_eq] at g3
      have hxr : x.toInt ≤ cP q r := by
        rw [← qI_le]
        show _ ≤ qP q r
        rw [c_P hS r (by omega)]; exact g3.2
      have hrp : ¬ r < p := fun z => by
        have := hS.2.2.2 r p z p1
        have := p2.2
        have := g3.2
        grind
      by_cases h3 : p < r
      · have hlt : cP q p < cP q r := (c_CB hS hR hL).2.2.2.1 p r h3 (by omega)
        show qI (if p < r then sumI (fun n => tmB (cTh q n) (cY q n) (cA q n) (cP q p) (cP q r) x.toInt) 5 else if p = r then 0 else losB q (cP q p) x.toInt) = qI (if p < r then cP q r - cP q p else 1) * sumR (fun n => q_a l n * gq (some (q_P c p)) (some (q_P c r)) (qI x.toInt) (q_y l n)) 5
        rw [if_pos h3, if_pos h3]
        refine sum_q (fun n hn => ?_)
        rw [tmB_q hlt hpx hxr, tm n hn, yy n _ _ hn]
        show _ * gq (some (qP q p)) (some (qP q r)) _ _ * _ = _
        rw [c_P hS p p1, c_P hS r (by omega)]
      · have e : p = r := by omega
        subst e
        show qI (if p < p then _ else if p = p then 0 else _) = qI (if p < p then _ else 1) * sumR (fun n => q_a l n * gq (some (q_P c p)) (some (q_P c p)) (qI x.toInt) (q_y l n)) 5
        rw [if_neg (Nat.lt_irrefl _), if_neg (Nat.lt_irrefl _), if_pos rfl, sumR_z (fun n _ => by rw [gq_same]; grind), qI_0, qI_1]
        grind
theorem c_volt2 (hS : cS q c) (hR : cR q c) (hL : cL q l) (hF : ∀ j, j < q_m c → cF q j = F j) (hx : bd x) : fr2 (Int64.ofInt (vUp q (q_m c) x)) (Int64.ofInt (vDn q (q_m c) x)) (q_v c F l (qI x.toInt)) 1000000000000 := by
  obtain ⟨b1, b2, b3⟩ := CB_v (c_CB hS hR hL) hx
  exact ⟨_, _, rfl, rfl, b2, b3, b1, c_volt hS hR hL hF hx⟩
end Cv
