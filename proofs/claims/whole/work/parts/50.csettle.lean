/-! SETTLE ENDS AT THE CIRCUIT'S END -/
theorem q_gb_some {a : Nat → Int} : ∀ {i f : Nat}, q_gb a i = some f → f < i ∧ a f < 0 := by
  intro i
  induction i with
  | zero => intro f h; cases h
  | succ i ih =>
    intro f h
    rw [q_gb] at h
    by_cases hc : 0 ≤ a i
    · rw [if_pos hc] at h
      have := ih h
      exact ⟨by omega, this.2⟩
    · rw [if_neg hc] at h
      cases hq : q_gb a i with
      | none => rw [hq] at h; cases h; exact ⟨by omega, by omega⟩
      | some g =>
        rw [hq] at h
        dsimp only at h
        have := ih hq
        split at h <;> cases h
        · exact ⟨by omega, this.2⟩
        · exact ⟨by omega, by omega⟩
theorem q_gb_none {a : Nat → Int} : ∀ {i : Nat}, q_gb a i = none → ∀ j, j < i → 0 ≤ a j := by
  intro i
  induction i with
  | zero => intro _ j hj; omega
  | succ i ih =>
    intro h j hj
    rw [q_gb] at h
    by_cases hc : 0 ≤ a i
    · rw [if_pos hc] at h
      by_cases hji : j = i
      · subst hji; exact hc
      · exact ih h j (by omega)
    · rw [if_neg hc] at h
      split at h
      · cases h
      · split at h <;> cases h
theorem q_hi_some {th : Nat → Bool} {a : Nat → Int} {v : Nat → Rat} : ∀ {i f : Nat}, q_hi th a v i = some f → f < i ∧ th f = true ∧ a f < 0 := by
  intro i
  induction i with
  | zero => intro f h; cases h
  | succ i ih =>
    intro f h
    rw [q_hi] at h
    by_cases hc : th i = true ∧ a i < 0
    · rw [if_pos hc] at h
      cases hq : q_hi th a v i with
      | none => rw [hq] at h; cases h; exact ⟨by omega, hc⟩
      | some g =>
        rw [hq] at h
        dsimp only at h
        have := ih hq
        split at h <;> cases h
        · exact ⟨by omega, hc⟩
        · exact ⟨by omega, this.2⟩
    · rw [if_neg hc] at h
      have := ih h
      exact ⟨by omega, this.2⟩
theorem q_hi_none {th : Nat → Bool} {a : Nat → Int} {v : Nat → Rat} : ∀ {i : Nat}, q_hi th a v i = none → ∀ j, j < i → ¬ (th j = true ∧ a j < 0) := by
  intro i
  induction i with
  | zero => intro _ j hj; omega
  | succ i ih =>
    intro h j hj
    rw [q_hi] at h
    by_cases hc : th i = true ∧ a i < 0
    · rw [if_pos hc] at h
      split at h
      · cases h
      · split at h <;> cases h
    · rw [if_neg hc] at h
      by_cases hji : j = i
      · subst hji; exact hc
      · exact ih h j (by omega)
theorem q_bk_some {c : qC} {l : qL} {n : Nat} (h : q_bk c l = some n) : n < 5 ∧ q_am l n < 0 := by
  unfold q_bk at h
  split at h
  · split at h
    · have := q_hi_some h; exact ⟨this.1, this.2.2⟩
    · cases h
  · exact q_gb_some h
theorem sumI_nn {f : Nat → Int} : ∀ {n : Nat}, (∀ i, i < n → 0 ≤ f i) → 0 ≤ sumI f n := by
  intro n
  induction n with
  | zero => intro _; exact Int.le_refl _
  | succ n ih => intro h; have a := ih (fun i hi => h i (by omega)); have b := h n (by omega); rw [sumI]; omega
theorem q_bk_none {c : qC} {l : qL} (h : q_bk c l = none) : 0 ≤ sumI (q_am l) 5 := by
  rcases (show 0 ≤ sumI (q_am l) 5 ∨ ¬ 0 ≤ sumI (q_am l) 5 by omega) with z | z
  · exact z
  · unfold q_bk at h
    rw [if_neg z] at h
    exact sumI_nn (q_gb_none h)
/-- how often it may still be halved -/
def hbz (z : Int) : Nat := if z < 0 then Nat.log2 z.natAbs + 1 else 0
def pot (a : Nat → Int) : Nat → Nat
  | 0 => 0
  | n + 1 => pot a n + hbz (a n)
theorem hbz_half {z : Int} (h : z < 0) : hbz (z.tdiv 2) + 1 = hbz z := by
  unfold hbz
  rw [if_pos h]
  obtain ⟨k, hk⟩ : ∃ k : Nat, z = -(k : Int) := ⟨z.natAbs, by omega⟩
  subst hk
  have e : (-(k : Int)).tdiv 2 = -((k / 2 : Nat) : Int) := by rw [Int.neg_tdiv]; rfl
  rw [e]
  have e2 : (-(k : Int)).natAbs = k := by omega
  have e3 : (-((k / 2 : Nat) : Int)).natAbs = k / 2 := by omega
  rw [e2, e3]
  by_cases h1 : k / 2 = 0
  · have : k = 1 := by omega
    subst this
    rfl
  · rw [if_pos (by omega)]
    have : Nat.log2 k = Nat.log2 (k / 2) + 1 := by
      rw [Nat.log2_def k, if_pos (by omega)]
    omega
theorem pot_half {l : qL} {n : Nat} (h : q_am l n < 0) : ∀ {N : Nat}, n < N → pot (q_am (q_half l n)) N + 1 = pot (q_am l) N := by
  have hlow : ∀ N, N ≤ n → pot (q_am (q_half l n)) N = pot (q_am l) N := by
    intro N
    induction N with
    | zero => intro _; rfl
    | succ N ih =>
      intro hN
      have e : q_am (q_half l n) N = q_am l N := by
        show (if N = n then _ else _) = _
        rw [if_neg (by omega)]; rfl
      rw [pot, pot, ih (by omega), e]
  intro N
  induction N with
  | zero => intro h; omega
  | succ N ih =>
    intro hN
    rw [pot, pot]
    by_cases hn : N = n
    · subst hn
      have e : q_am (q_half l N) N = (q_am l N).tdiv 2 := by
        show (if N = N then _ else _) = _
        rw [if_pos rfl]; rfl
      rw [hlow N (Nat.le_refl _), e]
      have := hbz_half h
      omega
    · have e : q_am (q_half l n) N = q_am l N := by
        show (if N = n then _ else _) = _
        rw [if_neg (by omega)]; rfl
      have := ih (by omega)
      rw [e]
      omega
theorem pot_le {a : Nat → Int} : ∀ {N : Nat}, (∀ n, n < N → (a n).natAbs ≤ 400) → pot a N ≤ 9 * N := by
  intro N
  induction N with
  | zero => intro _; exact Nat.le_refl _
  | succ N ih =>
    intro h
    have h1 := ih (fun n hn => h n (by omega))
    have h2 := h N (by omega)
    have : hbz (a N) ≤ 9 := by
      unfold hbz
      split
      · have : Nat.log2 (a N).natAbs < 9 := (Nat.log2_lt (by omega)).mpr (by omega)
        omega
      · omega
    rw [pot]
    omega
/-- it ends -/
theorem q_sol_end {c : qC} : ∀ (k : Nat) (l : qL), pot (q_am l) 5 < k → q_bk c (q_sol c k l) = none := by
  intro k
  induction k with
  | zero => intro l h; omega
  | succ k ih =>
    intro l h
    rw [q_sol]
    cases hb : q_bk c l with
    | none => exact hb
    | some n =>
      obtain ⟨h1, h2⟩ := q_bk_some hb
      have := pot_half h2 h1
      exact ih _ (by omega)
theorem q_sol_stop {c : qC} : ∀ (k : Nat) (l : qL), q_bk c l = none → q_sol c k l = l := by
  intro k
  cases k with
  | zero => intro l _; rfl
  | succ k => intro l h; rw [q_sol, h]
theorem q_sol_more {c : qC} : ∀ (k : Nat) (l : qL) (d : Nat), pot (q_am l) 5 < k → q_sol c (k + d) l = q_sol c k l := by
  intro k
  induction k with
  | zero => intro l d h; omega
  | succ k ih =>
    intro l d h
    rw [show k + 1 + d = (k + d) + 1 by omega, q_sol, q_sol]
    cases hb : q_bk c l with
    | none => rfl
    | some n =>
      obtain ⟨h1, h2⟩ := q_bk_some hb
      have := pot_half h2 h1
      exact ih _ d (by omega)
theorem fr2_lt {u d v e : Int64} {r s : Rat} {B : Nat} (h1 : fr2 u d r B) (h2 : fr2 v e s B) (hB : B ≤ 1000000000000) : (u * e < v * d) = (r < s) := by
  obtain ⟨a, b, rfl, rfl, b1, b2, b3, b4⟩ := h1
  obtain ⟨a', b', rfl, rfl, c1, c2, c3, c4⟩ := h2
  rw [← Int64.ofInt_mul, ← Int64.ofInt_mul]
  have m1 := mul_bd (A := 1000000000000) (B := 200000) (a := a) (b := b') (by omega) (by omega)
  have m2 := mul_bd (A := 1000000000000) (B := 200000) (a := a') (b := b) (by omega) (by omega)
  rw [propext (i64_lt (a := a * b') (b := a' * b) (by omega) (by omega))]
  rw [← propext (qI_lt (a := a * b') (b := a' * b)), qI_mul, qI_mul, b4, c4]
  have hb : 0 < qI b := qI_lt.mpr b1
  have hb' : 0 < qI b' := qI_lt.mpr c1
  have hp : 0 < qI b * qI b' := Rat.mul_pos hb hb'
  apply propext
  constructor
  · intro h
    rcases (show r < s ∨ s ≤ r by grind) with z | z
    · exact z
    · have := Rat.mul_le_mul_of_nonneg_right (c := qI b * qI b') z (by grind); grind
  · intro h
    have := Rat.mul_lt_mul_of_pos_right h hp; grind
theorem z_lt {a b a' b' : Int} {r s : Rat} (hb : 0 < b) (hb' : 0 < b') (h1 : qI a = r * qI b) (h2 : qI a' = s * qI b') : (a * b' < a' * b) = (r < s) := by
  rw [← propext (qI_lt (a := a * b') (b := a' * b)), qI_mul, qI_mul, h1, h2]
  have hp : 0 < qI b * qI b' := Rat.mul_pos (qI_lt.mpr hb) (qI_lt.mpr hb')
  apply propext
  constructor
  · intro h
    rcases (show r < s ∨ s ≤ r by grind) with z | z
    · exact z
    · have := Rat.mul_le_mul_of_nonneg_right (c := qI b * qI b') z (by grind); grind
  · intro h
    have := Rat.mul_lt_mul_of_pos_right h hp; grind
section Cs
variable {q : Nat → Nat → Int32} {c : qC} {l : qL}
theorem cS_of {p : Nat → Nat → Int32} (h : cS q c) (he : ∀ a b, a = 34 ∨ a = 35 ∨ a = 36 → p a b = q a b) : cS p c := by
  obtain ⟨s1, s2, s3, s4⟩ := h
  refine ⟨by rw [he 34 5 (by simp)]; exact s1, s2, fun j hj => ?_, s4⟩
  unfold cP
  rw [he 36 j (by simp), he 35 j (by simp)]
  exact s3 j hj
theorem cR_of {p : Nat → Nat → Int32} (h : cR q c) (he : ∀ b, p 2 b = q 2 b) : cR p c := by
  unfold cR
  rw [he, he, he]
  exact h
theorem cL_of {p : Nat → Nat → Int32} (h : cL q l) (he : ∀ a b, a = 40 ∨ a = 41 ∨ a = 42 → p a b = q a b) : cL p l := by
  intro n hn
  unfold cTh cY cA
  rw [he 40 n (by simp), he 41 n (by simp), he 42 n (by simp)]
  exact h n hn
theorem gbm_q (hL : cL q l) : ∀ i, i ≤ 5 → gbm q i = q_gb (q_am l) i := by
  intro i
  induction i with
  | zero => intro _; rfl
  | succ i ih =>
    intro hi
    have e := ih (by omega)
    have h0 : (0 ≤ q 42 i) = (0 ≤ q_am l i) := by
      rw [← (hL i (by omega)).2.2.1, Int32.le_iff_toInt_le]; rfl
    rw [gbm, q_gb, e]
    simp only [h0]
    cases hq : q_gb (q_am l) i with
    | none => rfl
    | some f =>
      have hf := (q_gb_some hq).1
      have h1 : (q 42 f ≤ q 42 i) = (q_am l f ≤ q_am l i) := by
        rw [← (hL i (by omega)).2.2.1, ← (hL f (by omega)).2.2.1, Int32.le_iff_toInt_le]; rfl
      simp only [h1]
theorem vU_q (hS : cS q c) (hR : cR q c) (hL : cL q l) (hF : ∀ j, j < q_m c → cF q j = q_F c l j) {n : Nat} (hn : n < 5) (ht : q_th l n = true) : 0 < vD q (q_m c) n ∧ qI (vU q (q_m c) n) = q_vn c l n * qI (vD q (q_m c) n) := by
  obtain ⟨l1, l2, _⟩ := hL n hn
  obtain ⟨y1, y2⟩ := l2 ht
  have h := c_volt hS hR hL hF y1
  have hb := CB_v (c_CB hS hR hL) y1
  refine ⟨hb.2.1, ?_⟩
  unfold q_vn
  rw [← y2]
  exact h
theorem thB_q (hS : cS q c) (hR : cR q c) (hL : cL q l) (hF : ∀ j, j < q_m c → cF q j = q_F c l j) : ∀ i, i ≤ 5 → thB q (q_m c) i = anyB (fun n => q_th l n && decide (c.1.2.2 < q_vn c l n)) i := by
  intro i
  induction i with
  | zero => intro _; rfl
  | succ i ih =>
    intro hi
    rw [thB, anyB, ih (by omega), (hL i (by omega)).1]
    cases ht : q_th l i with
    | false => rfl
    | true =>
      obtain ⟨v1, v2⟩ := vU_q hS hR hL hF (show i < 5 by omega) ht
      have : ((q 2 3).toInt * vD q (q_m c) i < vU q (q_m c) i) = (c.1.2.2 < q_vn c l i) := by
        have := z_lt (a := (q 2 3).toInt) (b := 1) (r := c.1.2.2) Int.one_pos v1 (by rw [hR.1.2.2, qI_1]; grind) v2
        rw [← this, Int.mul_one]
      simp only [this]
theorem hiA_q (hS : cS q c) (hR : cR q c) (hL : cL q l) (hF : ∀ j, j < q_m c → cF q j = q_F c l j) : ∀ i, i ≤ 5 → hiA q (q_m c) i = q_hi (q_th l) (q_am l) (q_vn c l) i := by
  intro i
  induction i with
  | zero => intro _; rfl
  | succ i ih =>
    intro hi
    rw [hiA, q_hi, ih (by omega), (hL i (by omega)).1, (hL i (by omega)).2.2.1]
    by_cases hc : q_th l i = true ∧ q_am l i < 0
    · rw [if_pos hc, if_pos hc]
      cases hq : q_hi (q_th l) (q_am l) (q_vn c l) i with
      | none => rfl
      | some f =>
        have hf := q_hi_some hq
        obtain ⟨v1, v2⟩ := vU_q hS hR hL hF (show i < 5 by omega) hc.1
        obtain ⟨w1, w2⟩ := vU_q hS hR hL hF (show f < 5 by omega) hf.2.1
        simp only [z_lt w1 v1 w2 v2]
    · rw [if_neg hc, if_neg hc]
theorem c_bk (ml : Nat → Nat → Int64) (hS : cS q c) (hR : cR q c) (hL : cL q l) (hm : 0 < q_m c) : stB q ml (q_m c) = q_bk c l := by
  unfold stB q_bk
  rw [c_sum hL]
  by_cases h0 : 0 ≤ sumI (q_am l) 5
  · rw [if_pos h0, if_pos h0]
    have hne : ∀ a b, ¬ a = 37 → ffI q ml (q_m c) a b = q a b := fun a b h => ffI_ne h
    have hS' : cS (ffI q ml (q_m c)) c := cS_of hS (fun a b h => hne a b (by omega))
    have hR' : cR (ffI q ml (q_m c)) c := cR_of hR (fun b => hne 2 b (by omega))
    have hL' : cL (ffI q ml (q_m c)) l := cL_of hL (fun a b h => hne a b (by omega))
    have hF' : ∀ j, j < q_m c → cF (ffI q ml (q_m c)) j = q_F c l j := fun j hj => (c_feed ml hS hR hL hm h0 j hj).1
    rw [gbm_q hL' 5 (Nat.le_refl _), thB_q hS' hR' hL' hF' 5 (Nat.le_refl _), hiA_q hS' hR' hL' hF' 5 (Nat.le_refl _)]
    unfold q_hot
    by_cases hg : q_gb (q_am l) 5 = none
    · rw [if_pos hg]
      split
      · cases hh : q_hi (q_th l) (q_am l) (q_vn c l) 5 with
        | none => rfl
        | some f =>
          exfalso
          have := q_hi_some hh
          have := q_gb_none hg f this.1
          omega
      · rfl
    · rw [if_neg hg]
  · rw [if_neg h0, if_neg h0, gbm_q hL 5 (Nat.le_refl _)]
theorem half_q (hL : cL q l) {n : Nat} (hn : n < 5) {p : Nat → Nat → Int32} (he : ∀ a b, a = 40 ∨ a = 41 ∨ a = 42 → p a b = q a b) : cL (am_up p 42 n (p 42 n / 2)) (q_half l n) := by
  intro i hi
  obtain ⟨l1, l2, l3, l4, l5⟩ := hL i hi
  have e1 : cTh (am_up p 42 n (p 42 n / 2)) i = cTh q i := by unfold cTh; rw [am_upa, if_neg (by omega), he 40 i (by simp)]
  have e2 : am_up p 42 n (p 42 n / 2) 41 i = q 41 i := by rw [am_upa, if_neg (by omega), he 41 i (by simp)]
  have e3 : cY (am_up p 42 n (p 42 n / 2)) i = cY q i := by unfold cY; rw [e2]
  rw [e1, e2, e3]
  refine ⟨l1, l2, ?_⟩
  have e4 : q_am (q_half l n) i = if i = n then (q_am l n).tdiv 2 else q_am l i := rfl
  rw [e4]
  unfold cA
  rw [am_upa]
  by_cases h : i = n
  · subst h
    have hb := half_bd (x := q 42 i) (B := 100000) (by show (cA q i).natAbs ≤ _; rw [l3]; exact l4)
    have h2 : (2 : Int32).toInt = 2 := rfl
    have e5 : (p 42 i / 2).toInt = (q_am l i).tdiv 2 := by
      rw [he 42 i (by simp), Int32.toInt_div_of_ne_right _ _ (by decide), h2, ← l3]; rfl
    rw [if_pos ⟨rfl, rfl⟩, if_pos rfl, e5]
    refine ⟨rfl, ?_, fun ht => ?_⟩
    · rw [← e5, he 42 i (by simp)]; exact hb
    · have := l5 ht
      rw [this]; rfl
  · rw [if_neg (fun z => h z.2), if_neg h, he 42 i (by simp)]
    exact ⟨l3, l4, l5⟩
end Cs
/-- behind settle -/
def cE (q : Nat → Nat → Int32) (ml : Nat → Nat → Int64) (c : qC) (l : qL) : Prop := cS q c ∧ cR q c ∧ cL q l ∧ ∀ j, j < q_m c → cF q j = q_F c l j ∧ (q_F c l j = true → fr2 (ml 38 j) (ml 39 j) (q_g c l j) 20000000000)
theorem c_stl {c : qC} (hm : 0 < q_m c) : ∀ (k : Nat) (q : Nat → Nat → Int32) (ml : Nat → Nat → Int64) (l : qL), cS q c → cR q c → cL q l → pot (q_am l) 5 < k → cE (stL (q_m c) k q ml).1 (stL (q_m c) k q ml).2 c (q_sol c k l) ∧ (∀ a b, ¬ a = 37 → ¬ a = 42 → (stL (q_m c) k q ml).1 a b = q a b) ∧ ∀ a b, ¬ a = 38 → ¬ a = 39 → ¬ a = 43 → ¬ a = 44 → (stL (q_m c) k q ml).2 a b = ml a b := by
  have ffJne : ∀ (m k : Nat) (q : Nat → Nat → Int32) (ml : Nat → Nat → Int64) (a b : Nat), ¬ a = 38 → ¬ a = 39 → (ffL m k q ml).2 a b = ml a b := by
    intro m k
    induction k with
    | zero => intro q ml a b _ _; rfl
    | succ k ih =>
      intro q ml a b h1 h2
      have e : wgh q ml m m a b = ml a b := by unfold wgh; rw [if_neg (fun z => h1 z.1), if_neg (fun z => h2 z.1)]
      rw [ffL]
      split
      · rw [ih _ _ _ _ h1 h2, e]
      · exact e
  have stJne : ∀ (q : Nat → Nat → Int32) (ml : Nat → Nat → Int64) (m a b : Nat), ¬ a = 38 → ¬ a = 39 → ¬ a = 43 → ¬ a = 44 → stJ q ml m a b = ml a b := by
    intro q ml m a b h1 h2 h3 h4
    unfold stJ
    split
    · split
      · exact ffJne _ _ _ _ _ _ h1 h2
      · rw [hiM_ne h3 h4]; exact ffJne _ _ _ _ _ _ h1 h2
    · rfl
  intro k
  induction k with
  | zero => intro q ml l _ _ _ h; omega
  | succ k ih =>
    intro q ml l hS hR hL hp
    have hb := c_bk ml hS hR hL hm
    have hI : ∀ a b, ¬ a = 37 → stI q ml (q_m c) a b = q a b := fun a b h => stI_ne h
    rw [stL, q_sol, hb]
    cases hq : q_bk c l with
    | none =>
      have h0 := q_bk_none hq
      dsimp only
      refine ⟨⟨cS_of hS (fun a b h => hI a b (by omega)), cR_of hR (fun b => hI 2 b (by omega)), cL_of hL (fun a b h => hI a b (by omega)), fun j hj => ?_⟩, fun a b h _ => hI a b h, fun a b h1 h2 h3 h4 => stJne _ _ _ _ _ h1 h2 h3 h4⟩
      have := c_feed ml hS hR hL hm h0 j hj
      have eI : stI q ml (q_m c) = ffI q ml (q_m c) := by unfold stI; rw [if_pos (by rw [c_sum hL]; exact h0)]
      have eJ : ∀ b, stJ q ml (q_m c) 38 b = ffJ q ml (q_m c) 38 b ∧ stJ q ml (q_m c) 39 b = ffJ q ml (q_m c) 39 b := by
        intro b
        unfold stJ
        rw [if_pos (by rw [c_sum hL]; exact h0)]
        split
        · exact ⟨rfl, rfl⟩
        · rw [hiM_ne (by decide) (by decide), hiM_ne (by decide) (by decide)]; exact ⟨rfl, rfl⟩
      rw [eI, (eJ j).1, (eJ j).2]
      exact this
    | some n =>
      obtain ⟨n1, n2⟩ := q_bk_some hq
      have hpt := pot_half n2 n1
      dsimp only
      obtain ⟨i1, i2, i3⟩ := ih (am_up (stI q ml (q_m c)) 42 n (stI q ml (q_m c) 42 n / 2)) (stJ q ml (q_m c)) (q_half l n) (cS_of hS (fun a b h => by rw [am_upa, if_neg (by omega)]; exact hI a b (by omega))) (cR_of hR (fun b => by rw [am_upa, if_neg (by omega)]; exact hI 2 b (by omega))) (half_q hL n1 (fun a b h => hI a b (by omega))) (by omega)
      refine ⟨i1, fun a b h1 h2 => ?_, fun a b h1 h2 h3 h4 => ?_⟩
      · rw [i2 a b h1 h2, am_upa, if_neg (fun z => h2 z.1)]; exact hI a b h1
      · rw [i3 a b h1 h2 h3 h4]; exact stJne _ _ _ _ _ h1 h2 h3 h4
