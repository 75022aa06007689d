/-! THE FIRST SET THAT FEEDS, AS BITS -/
def num5 (a b c d e : Bool) : Nat := (if a = true then 1 else 0) + (if b = true then 2 else 0) + (if c = true then 4 else 0) + (if d = true then 8 else 0) + (if e = true then 16 else 0)
def numB (B : Nat → Bool) : Nat := num5 (B 0) (B 1) (B 2) (B 3) (B 4)
theorem num5_lt : ∀ a b c d e : Bool, num5 a b c d e < 32 := by decide +kernel
theorem num5_bt : ∀ a b c d e : Bool, bt (nI (num5 a b c d e)) 0 = a ∧ bt (nI (num5 a b c d e)) 1 = b ∧ bt (nI (num5 a b c d e)) 2 = c ∧ bt (nI (num5 a b c d e)) 3 = d ∧ bt (nI (num5 a b c d e)) 4 = e := by decide +kernel
theorem numB_bt {B : Nat → Bool} {s : Nat} (hs : s < 5) : bt (nI (numB B)) s = B s := by
  obtain ⟨h0, h1, h2, h3, h4⟩ := num5_bt (B 0) (B 1) (B 2) (B 3) (B 4)
  rcases (show s = 0 ∨ s = 1 ∨ s = 2 ∨ s = 3 ∨ s = 4 by omega) with rfl | rfl | rfl | rfl | rfl
  · exact h0
  · exact h1
  · exact h2
  · exact h3
  · exact h4
theorem numB_lt {B : Nat → Bool} : numB B < 32 := num5_lt _ _ _ _ _
theorem num5_or : ∀ a b c d e : Bool, ∀ t, t < 5 → nI (num5 a b c d e) ||| (1 <<< (nI t &&& 31)) = nI (num5 (a || decide (t = 0)) (b || decide (t = 1)) (c || decide (t = 2)) (d || decide (t = 3)) (e || decide (t = 4))) := by decide +kernel
theorem bt_le {a b : Nat} (ha : a < 32) (hb : b < 32) (h : ∀ s, s < 5 → bt (nI a) s = true → bt (nI b) s = true) : a ≤ b := by
  have k : ∀ a, a < 32 → ∀ b, b < 32 → (∀ s, s < 5 → bt (nI a) s = true → bt (nI b) s = true) → a ≤ b := by decide +kernel
  exact k a ha b hb h
theorem bt_pow {a s : Nat} (ha : a < 32) (hs : s < 5) (h : bt (nI a) s = true) : 2 ^ s ≤ a := by
  have k : ∀ a, a < 32 → ∀ s, s < 5 → bt (nI a) s = true → 2 ^ s ≤ a := by decide +kernel
  exact k a ha s hs h
theorem bt_only {a f : Nat} (ha : a < 32) (hf : f < 5) (h : ∀ s, s < 5 → bt (nI a) s = true → s = f) : a ≤ 2 ^ f := by
  have k : ∀ a, a < 32 → ∀ f, f < 5 → (∀ s, s < 5 → bt (nI a) s = true → s = f) → a ≤ 2 ^ f := by decide +kernel
  exact k a ha f hf h
theorem bt_subset {a b : Nat} (ha : a < 32) (hb : b < 32) : nI a &&& (nI b ^^^ -1) = 0 ↔ ∀ s, s < 5 → bt (nI a) s = true → bt (nI b) s = true := by
  have k : ∀ a, a < 32 → ∀ b, b < 32 → (nI a &&& (nI b ^^^ -1) = 0 ↔ ∀ s, s < 5 → bt (nI a) s = true → bt (nI b) s = true) := by decide +kernel
  exact k a ha b hb
theorem bt_ex {a : Nat} (ha : a < 32) (h : 1 ≤ a) : ∃ s, s < 5 ∧ bt (nI a) s = true := by
  have k : ∀ a, a < 32 → 1 ≤ a → ∃ s, s < 5 ∧ bt (nI a) s = true := by decide +kernel
  exact k a ha h
def q_B (c : qC) (F : Nat → Bool) (i s : Nat) : Bool := anyB (fun j => F j && decide (q_nu c j = s)) i
def q_bits (c : qC) (l : qL) : Nat := numB (q_B c (q_F c l) (q_m c))
theorem q_bits_lt {c : qC} {l : qL} : q_bits c l < 32 := numB_lt
theorem bitsF_q {q : Nat → Nat → Int32} {c : qC} {F : Nat → Bool} : ∀ i, (∀ j, j < i → cF q j = F j ∧ q 35 j = nI (q_nu c j) ∧ q_nu c j < 5) → bitsF q i = nI (numB (q_B c F i)) := by
  intro i
  induction i with
  | zero => intro _; rfl
  | succ i ih =>
    intro h
    obtain ⟨h1, h2, h3⟩ := h i (by omega)
    have e := ih (fun j hj => h j (by omega))
    rw [bitsF, h1, e, h2]
    cases hF : F i with
    | true =>
      rw [if_pos rfl]
      have := num5_or (q_B c F i 0) (q_B c F i 1) (q_B c F i 2) (q_B c F i 3) (q_B c F i 4) (q_nu c i) h3
      refine Eq.trans this ?_
      have e2 : ∀ s, q_B c F (i + 1) s = (q_B c F i s || decide (q_nu c i = s)) := fun s => by
        unfold q_B
        rw [anyB, hF, Bool.true_and]
      unfold numB
      rw [e2, e2, e2, e2, e2]
    | false =>
      rw [if_neg (by decide)]
      have e2 : q_B c F (i + 1) = q_B c F i := by
        funext s
        unfold q_B
        rw [anyB, hF, Bool.false_and, Bool.or_false]
      rw [e2]
theorem c_bits {q : Nat → Nat → Int32} {ml : Nat → Nat → Int64} {c : qC} {l : qL} (h : cE q ml c l) : bitsF q (q_m c) = nI (q_bits c l) := bitsF_q (q_m c) (fun j hj => ⟨(h.2.2.2 j hj).1, (h.1.2.2.1 j hj).2.2⟩)
/-- only up and down have changed -/
def ux (ml ml' : Nat → Nat → Int64) : Prop := ∀ a b, ¬ (a = 61 ∧ (b = 19 ∨ b = 20)) → ml' a b = ml a b
theorem ux_rf {ml : Nat → Nat → Int64} : ux ml ml := fun _ _ _ => rfl
theorem ux_tr {ml m2 m3 : Nat → Nat → Int64} (h1 : ux ml m2) (h2 : ux m2 m3) : ux ml m3 := fun a b h => by rw [h2 a b h, h1 a b h]
theorem ux_ud {ml : Nat → Nat → Int64} {u d : Int} : ux ml (ud ml u d) := fun a b h => by
  unfold ud
  rw [am_upa, if_neg (fun z => h ⟨z.1, Or.inl z.2⟩), am_upa, if_neg (fun z => h ⟨z.1, Or.inr z.2⟩)]
theorem ux_df {q : Nat → Nat → Int32} {K n : Nat} {set inn : Int32} : ∀ (k s : Nat) (ml : Nat → Nat → Int64), ux ml (dfR q K n set inn k s ml).2 := by
  intro k
  induction k with
  | zero => intro s ml; exact ux_rf
  | succ k ih =>
    intro s ml
    rw [dfR]
    split
    · split
      · exact ux_tr ux_ud (ih _ _)
      · exact ux_ud
    · split
      · split
        · exact ux_tr ux_ud (ih _ _)
        · exact ux_ud
      · exact ih _ _
theorem ux_ff {q : Nat → Nat → Int32} {K n : Nat} {inn : Int32} : ∀ (k s : Nat) (ml : Nat → Nat → Int64), ux ml (ffR q K n inn k s ml).2 := by
  intro k
  induction k with
  | zero => intro s ml; exact ux_rf
  | succ k ih =>
    intro s ml
    rw [ffR]
    split
    · split
      · exact ux_df _ _ _
      · exact ux_tr (ux_df _ _ _) (ih _ _)
    · exact ih _ _
theorem ffR_first {q : Nat → Nat → Int32} {K n X : Nat} {inn : Int32} (hX : nI X &&& (inn ^^^ -1) = 0) (h2 : ∀ ml, (dfR q K n (nI X) inn n 0 ml).1 = true) : ∀ (k set : Nat) (ml : Nat → Nat → Int64), (∀ s, set ≤ s → s < X → nI s &&& (inn ^^^ -1) = 0 → ∀ ml, ¬ (dfR q K n (nI s) inn n 0 ml).1 = true) → set ≤ X → X < set + k → (ffR q K n inn k set ml).1 = some X := by
  intro k
  induction k with
  | zero => intro set ml _ h3 h4; omega
  | succ k ih =>
    intro set ml h1 h3 h4
    rw [ffR]
    by_cases hs : set = X
    · subst hs
      rw [if_pos hX, if_pos (h2 ml)]
    · split
      · rename_i h5
        rw [if_neg (h1 set (Nat.le_refl _) (by omega) h5 ml)]
        exact ih _ _ (fun s a b => h1 s (by omega) b) (by omega) (by omega)
      · exact ih _ _ (fun s a b => h1 s (by omega) b) (by omega) (by omega)
theorem ffR_none {q : Nat → Nat → Int32} {K n : Nat} {inn : Int32} : ∀ (k set : Nat) (ml : Nat → Nat → Int64), (∀ s, set ≤ s → s < set + k → nI s &&& (inn ^^^ -1) = 0 → ∀ ml, ¬ (dfR q K n (nI s) inn n 0 ml).1 = true) → (ffR q K n inn k set ml).1 = none := by
  intro k
  induction k with
  | zero => intro set ml _; rfl
  | succ k ih =>
    intro set ml h1
    rw [ffR]
    split
    · rename_i h5
      rw [if_neg (h1 set (Nat.le_refl _) (by omega) h5 ml)]
      exact ih _ _ (fun s a b => h1 s (by omega) (by omega))
    · exact ih _ _ (fun s a b => h1 s (by omega) (by omega))
section Rf2
variable {q : Nat → Nat → Int32} {n I K : Nat} {c : qC} {l : qL}
theorem I_lt (hS : rS q n I c) : I < 32 := by
  have h := hS.2.2.2.2.1
  have : 2 ^ n ≤ 2 ^ 5 := Nat.pow_le_pow_right (by omega) hS.2.1
  omega
theorem nu_inj (hS : rS q n I c) {i j : Nat} (hi : i < q_m c) (hj : j < q_m c) (h : q_nu c i = q_nu c j) : i = j := P_inj hS hi hj (by
  rw [← (hS.2.2.2.2.2.2.1 i hi).2.1, ← (hS.2.2.2.2.2.2.1 j hj).2.1, h])
theorem q_B_nu (hS : rS q n I c) {F : Nat → Bool} {j : Nat} (hj : j < q_m c) : q_B c F (q_m c) (q_nu c j) = F j := by
  rw [Bool.eq_iff_iff]
  unfold q_B
  rw [anyB_iff]
  constructor
  · rintro ⟨i, hi, h⟩
    simp only [Bool.and_eq_true, decide_eq_true_eq] at h
    rw [← nu_inj hS hi hj h.2]; exact h.1
  · intro h
    exact ⟨j, hj, by simp [h]⟩
/-- the first set is a set of stations that are in -/
theorem r_bits (hS : rS q n I c) : rT q n I c (nI (q_bits c l)) (q_F c l) := by
  constructor
  · intro s hs h
    have hs5 : s < 5 := by have := hS.2.1; omega
    unfold q_bits at h
    rw [numB_bt hs5] at h
    obtain ⟨j, hj, h2⟩ := anyB_iff.mp h
    simp only [Bool.and_eq_true, decide_eq_true_eq] at h2
    rw [← h2.2]
    exact (hS.2.2.2.2.2.2.1 j hj).2.2
  · intro j hj
    have := (hS.2.2.2.2.2.2.1 j hj).1
    have := hS.2.1
    unfold q_bits
    rw [numB_bt (by omega), q_B_nu hS hj]
theorem bt_in (hS : rS q n I c) {s : Nat} (hs : s < 5) (h : bt (nI I) s = true) : ∃ j, j < q_m c ∧ q_nu c j = s := hS.2.2.2.2.2.2.2.1 s (bt_lt hS.2.1 hS.2.2.2.2.1 hs h) h
theorem rT_of (hS : rS q n I c) {s : Nat} (hs : s < 32) (h : nI s &&& (nI I ^^^ -1) = 0) : rT q n I c (nI s) (fun j => bt (nI s) (q_nu c j)) := by
  refine ⟨fun t ht hb => (bt_subset hs (I_lt hS)).mp h t (by have := hS.2.1; omega) hb, fun j hj => rfl⟩
theorem r_first (hS : rS q n I c) (hR : rR q c) (hL : rL q K l) (hm : 0 < q_m c) (h0 : 0 ≤ sumI (q_am l) 5) (ml : Nat → Nat → Int64) : (ffR q K n (nI I) I 1 ml).1 = some (q_bits c l) := by
  have hsR : 0 ≤ sumR (q_a l) 5 := by rw [sumR_qa]; exact qI_le.mpr h0
  have s9 := hS.2.2.2.2.2.2.2.2
  obtain ⟨k1, k2⟩ := q_S_ok hm s9 hsR
  obtain ⟨f1, f2⟩ := q_F_ok hm s9 hsR
  have hI := I_lt hS
  have hX : nI (q_bits c l) &&& (nI I ^^^ -1) = 0 := (bt_subset q_bits_lt hI).mpr (fun s hs hb => by
    unfold q_bits at hb
    rw [numB_bt hs] at hb
    obtain ⟨j, hj, h2⟩ := anyB_iff.mp hb
    simp only [Bool.and_eq_true, decide_eq_true_eq] at h2
    rw [← h2.2]
    exact (hS.2.2.2.2.2.2.1 j hj).2.2)
  have hle : q_bits c l ≤ I := bt_le q_bits_lt hI ((bt_subset q_bits_lt hI).mp hX)
  have hge : 1 ≤ q_bits c l := by
    obtain ⟨j, hj, hF⟩ := f1
    have hn := (hS.2.2.2.2.2.2.1 j hj).1
    have hn5 := hS.2.1
    have := bt_pow (a := q_bits c l) (s := q_nu c j) q_bits_lt (by omega) (by rw [← (r_bits (l := l) hS).2 j hj]; exact hF)
    have h3 : 0 < 2 ^ q_nu c j := Nat.pow_pos (by decide)
    omega
  refine ffR_first hX (fun ml => ?_) I 1 ml (fun s h1 h2 h3 ml hd => ?_) hge (by omega)
  · rw [r_fds hS hR hL (r_bits hS) ml]
    exact (greedy_fds s9 k1 k2 f1).mpr f2
  · have hs32 : s < 32 := by have := q_bits_lt (c := c) (l := l); omega
    rw [r_fds hS hR hL (rT_of hS hs32 h3) ml] at hd
    have hsub := (bt_subset hs32 hI).mp h3
    obtain ⟨t, t1, t2⟩ := bt_ex hs32 h1
    obtain ⟨j0, hj0, e0⟩ := bt_in hS t1 (hsub t t1 t2)
    have hgr := (greedy_fds (T := fun j => bt (nI s) (q_nu c j)) s9 k1 k2 ⟨j0, hj0, by show bt (nI s) (q_nu c j0) = true; rw [e0]; exact t2⟩).mp hd
    cases hsm : q_some c l with
    | true =>
      have : q_bits c l ≤ s := bt_le q_bits_lt hs32 (fun t ht hb => by
        unfold q_bits at hb
        rw [numB_bt ht] at hb
        obtain ⟨j, hj, h2⟩ := anyB_iff.mp hb
        simp only [Bool.and_eq_true, decide_eq_true_eq] at h2
        have hF := h2.1
        unfold q_F at hF
        rw [hsm] at hF
        simp at hF
        rw [← h2.2]
        exact (hgr j hj).2 hF.1 hF.2)
      omega
    | false =>
      obtain ⟨j, hj, hF⟩ := f1
      have hF' := hF
      have hng : ∀ i, i < q_m c → q_S c l i = true → ¬ 0 < q_g c l i := fun i hi hSi hg => by
        have : q_some c l = true := anyB_iff.mpr ⟨i, hi, by simp [hSi, hg]⟩
        rw [hsm] at this; cases this
      have hfr : ∀ i, i < q_m c → q_F c l i = true → q_fr (q_S c l) (q_nu c) (q_m c) = some i := fun i hi hFi => by
        have h4 := (f2 i hi).1 hFi
        unfold q_F at hFi
        simp [h4, hng i hi h4] at hFi
        exact hFi.2
      have hj2 := hfr j hj hF
      obtain ⟨_, _, hmin⟩ := q_fr_some hj2
      have hn5 := hS.2.1
      have a1 : q_bits c l ≤ 2 ^ q_nu c j := bt_only q_bits_lt (by have := (hS.2.2.2.2.2.2.1 j hj).1; omega) (fun t ht hb => by
        unfold q_bits at hb
        rw [numB_bt ht] at hb
        obtain ⟨i, hi, h2⟩ := anyB_iff.mp hb
        simp only [Bool.and_eq_true, decide_eq_true_eq] at h2
        have := hfr i hi h2.1
        rw [hj2] at this
        have e : j = i := Option.some.inj this
        rw [← h2.2, ← e])
      have a2 := hmin j0 hj0 ((hgr j0 hj0).1 (by rw [e0]; exact t2))
      have a3 := bt_pow hs32 t1 t2
      rw [← e0] at a3
      have a4 : 2 ^ q_nu c j ≤ 2 ^ q_nu c j0 := Nat.pow_le_pow_right (by decide) a2
      omega
theorem r_nofirst (hS : rS q n I c) (hR : rR q c) (hL : rL q K l) (h0 : ¬ 0 ≤ sumI (q_am l) 5) (ml : Nat → Nat → Int64) : (ffR q K n (nI I) I 1 ml).1 = none := by
  have hsR : sumR (q_a l) 5 < 0 := by rw [sumR_qa]; exact qI_lt.mpr (by omega)
  have hI := I_lt hS
  refine ffR_none I 1 ml (fun s h1 h2 h3 ml hd => ?_)
  have hs32 : s < 32 := by omega
  rw [r_fds hS hR hL (rT_of hS hs32 h3) ml] at hd
  obtain ⟨t, t1, t2⟩ := bt_ex hs32 h1
  obtain ⟨j0, hj0, e0⟩ := bt_in hS t1 ((bt_subset hs32 hI).mp h3 t t1 t2)
  exact none_fds (T := fun j => bt (nI s) (q_nu c j)) hS.2.2.2.2.2.2.2.2 hsR ⟨j0, hj0, by show bt (nI s) (q_nu c j0) = true; rw [e0]; exact t2⟩ hd
end Rf2
