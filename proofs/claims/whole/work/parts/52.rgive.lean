/-! THE REFERENCE: what is given, who feeds -/
theorem i32_add1 {x : Int32} (h : bd x) : (x + 1).toInt = x.toInt + 1 := by
  have h1 : (1 : Int32).toInt = 1 := rfl
  unfold bd at h
  rw [Int32.toInt_add, h1, Int.bmod_eq_of_le (by omega) (by omega)]
theorem i32_sub1 {x : Int32} (h : bd x) : (x - 1).toInt = x.toInt - 1 := by
  have h1 : (1 : Int32).toInt = 1 := rfl
  unfold bd at h
  rw [Int32.toInt_sub, h1, Int.bmod_eq_of_le (by omega) (by omega)]
theorem qI_lt1 {a b : Int} : qI a ≤ qI (b - 1) ↔ qI a < qI b := by rw [qI_le, qI_lt]; omega
theorem qI_gt1 {a b : Int} : qI (b + 1) ≤ qI a ↔ qI b < qI a := by rw [qI_le, qI_lt]; omega
section Rg
variable {q : Nat → Nat → Int32} {n I K : Nat} {c : qC} {l : qL} {set : Int32} {T : Nat → Bool}
theorem q_l_prv (hS : rS q n I c) {j : Nat} (hj : j < q_m c) {X : Rat} (hX : ∀ i, i < q_m c → (q_P c i ≤ X ↔ q_P c i < q_P c j)) : q_l (q_P c) (q_m c) T X = prvi T j := by
  have s9 := hS.2.2.2.2.2.2.2.2
  have hlt : ∀ i, i < q_m c → (q_P c i ≤ X ↔ i < j) := fun i hi => by
    rw [hX i hi]
    constructor
    · intro h
      rcases (show i < j ∨ j ≤ i by omega) with z | z
      · exact z
      · have := P_mono hS z hi; grind
    · intro h; exact s9 i j h hj
  unfold q_l
  cases h1 : prvi (fun i => T i && decide (q_P c i ≤ X)) (q_m c) with
  | none =>
    cases h2 : prvi T j with
    | none => rfl
    | some p =>
      obtain ⟨g1, g2, _⟩ := prvi_some h2
      have := prvi_none h1 p (by omega)
      have h3 := (hlt p (by omega)).mpr g1
      simp [g2, h3] at this
  | some i =>
    obtain ⟨k1, k2, k3⟩ := prvi_some h1
    simp only [Bool.and_eq_true, decide_eq_true_eq] at k2
    have hij := (hlt i k1).mp k2.2
    cases h2 : prvi T j with
    | none => have := prvi_none h2 i hij; rw [k2.1] at this; cases this
    | some p =>
      obtain ⟨g1, g2, g3⟩ := prvi_some h2
      have a1 : ¬ p < i := fun z => by have := g3 i z hij; rw [k2.1] at this; cases this
      have a2 : ¬ i < p := fun z => by
        have := k3 p z (by omega)
        have h3 := (hlt p (by omega)).mpr g1
        simp [g2, h3] at this
      rw [show i = p by omega]
theorem q_r_nxt (hS : rS q n I c) {j : Nat} (hj : j < q_m c) {X : Rat} (hX : ∀ i, i < q_m c → (X ≤ q_P c i ↔ q_P c j < q_P c i)) : q_r (q_P c) (q_m c) T X = nxti T (q_m c) j := by
  have s9 := hS.2.2.2.2.2.2.2.2
  have hlt : ∀ i, i < q_m c → (X ≤ q_P c i ↔ j < i) := fun i hi => by
    rw [hX i hi]
    constructor
    · intro h
      rcases (show j < i ∨ i ≤ j by omega) with z | z
      · exact z
      · have := P_mono hS z hj; grind
    · intro h; exact s9 j i h hi
  unfold q_r nxti
  cases h1 : fsti (fun i => T i && decide (X ≤ q_P c i)) 0 (q_m c) with
  | none =>
    cases h2 : fsti T (j + 1) (q_m c - (j + 1)) with
    | none => rfl
    | some p =>
      obtain ⟨g0, g1, g2, _⟩ := fsti_some h2
      have := fsti_none h1 p (by omega) (by omega)
      have h3 := (hlt p (by omega)).mpr (by omega)
      simp [g2, h3] at this
  | some i =>
    obtain ⟨_, k1, k2, k3⟩ := fsti_some h1
    simp only [Bool.and_eq_true, decide_eq_true_eq] at k2
    have hij := (hlt i (by omega)).mp k2.2
    cases h2 : fsti T (j + 1) (q_m c - (j + 1)) with
    | none => have := fsti_none h2 i (by omega) (by omega); rw [k2.1] at this; cases this
    | some p =>
      obtain ⟨g0, g1, g2, g3⟩ := fsti_some h2
      have a1 : ¬ i < p := fun z => by have := g3 i (by omega) z; rw [k2.1] at this; cases this
      have a2 : ¬ p < i := fun z => by
        have := k3 p (by omega) z
        have h3 := (hlt p (by omega)).mpr (by omega)
        simp [g2, h3] at this
      rw [show i = p by omega]
theorem map_q {o : Option Nat} {s : Option Nat} (hS : rS q n I c) (h : (o = none ∧ s = none) ∨ ∃ j, j < q_m c ∧ o = some j ∧ s = some (q_nu c j)) : (s.map (mP q)).map qI = o.map (q_P c) := by
  rcases h with ⟨rfl, rfl⟩ | ⟨j, hj, rfl, rfl⟩
  · rfl
  · show some (qI (mP q (q_nu c j))) = some (q_P c j)
    rw [(hS.2.2.2.2.2.2.1 j hj).2.1]
/-- what station nu j gives with the set -/
theorem r_give (hS : rS q n I c) (hL : rL q K l) (hT : rT q n I c set T) {j : Nat} (hj : j < q_m c) : qI (gvu q K n set (q_nu c j)) = gS (q_P c) T (q_m c) 5 (q_a l) (q_y l) j * qI (gvd q n set (q_nu c j)) ∧ 0 < gvd q n set (q_nu c j) ∧ gvd q n set (q_nu c j) ≤ 40000 ∧ (gvu q K n set (q_nu c j)).natAbs ≤ 20000000000 := by
  obtain ⟨s1, s2, s3, s4, s5, s6, s7, s8, s9⟩ := id hS
  have hbs := s3 _ (s7 j hj).1
  have hPj : qI (q 64 (q_nu c j)).toInt = q_P c j := (s7 j hj).2.1
  have eL := r_nbL (x := q 64 (q_nu c j) - 1) hS hT
  have eR := r_nbR (x := q 64 (q_nu c j) + 1) hS hT
  rw [i32_sub1 hbs, q_l_prv hS hj (fun i hi => by rw [← hPj, ← (s7 i hi).2.1, qI_lt1])] at eL
  rw [i32_add1 hbs, q_r_nxt hS hj (fun i hi => by rw [← hPj, ← (s7 i hi).2.1, qI_gt1])] at eR
  have mL := map_q hS eL
  have mR := map_q hS eR
  have bL : ∀ p, (nbL q set (q 64 (q_nu c j) - 1) n).map (mP q) = some p → p < (q 64 (q_nu c j)).toInt ∧ 0 ≤ p ∧ p ≤ 200 := fun p hp => by
    cases h : nbL q set (q 64 (q_nu c j) - 1) n with
    | none => rw [h] at hp; cases hp
    | some s =>
      rw [h] at hp
      obtain ⟨k1, k2, k3, _⟩ := nbL_some h
      rw [Int32.le_iff_toInt_le, i32_sub1 hbs] at k3
      have := s3 s k1
      have e : mP q s = p := by simpa using hp
      rw [← e]
      unfold bd at this
      unfold mP
      omega
  have bR : ∀ p, (nbR q set (q 64 (q_nu c j) + 1) n).map (mP q) = some p → (q 64 (q_nu c j)).toInt < p ∧ 0 ≤ p ∧ p ≤ 200 := fun p hp => by
    cases h : nbR q set (q 64 (q_nu c j) + 1) n with
    | none => rw [h] at hp; cases hp
    | some s =>
      rw [h] at hp
      obtain ⟨k1, k2, k3, _⟩ := nbR_some h
      rw [Int32.le_iff_toInt_le, i32_add1 hbs] at k3
      have := s3 s k1
      have e : mP q s = p := by simpa using hp
      rw [← e]
      unfold bd at this
      unfold mP
      omega
  unfold gvu gvd gvU gvD
  generalize (nbL q set (q 64 (q_nu c j) - 1) n).map (mP q) = ll at *
  generalize (nbR q set (q 64 (q_nu c j) + 1) n).map (mP q) = rr at *
  have hA : ∀ k, k < K → (mA q k).natAbs ≤ 100000 := fun k hk => by
    rw [hL.2.1] at hk
    obtain ⟨i, h1, h2, h3⟩ := cntB_at hk
    have := ((hL.2.2 i h1).1 h2).2.2
    rw [h3] at this
    rw [this]; exact (hL.2.2 i h1).2.1
  refine ⟨?_, Int.mul_pos (lef_pos (fun p hp => (bL p hp).1)) (rig_pos (fun p hp => (bR p hp).1)), ?_, ?_⟩
  · rw [hL.2.1]
    have := rsum (F := fun k => wT true (mY q k) (mA q k) (q 64 (q_nu c j)).toInt ll rr) (a := q_a l) (w := fun i => ga (q_P c) T (q_m c) (q_y l i) j) (k := qI (lef (q 64 (q_nu c j)).toInt ll * rig (q 64 (q_nu c j)).toInt rr)) (th := q_th l) (N := 5) (fun i hi => ⟨fun ht => ?_, fun ht => by unfold q_a; rw [(hL.2.2 i hi).2.2 ht, qI_0]⟩)
    · rw [this]; unfold gS; grind
    · rw [wT_q (fun p hp => (bL p hp).1) (fun p hp => (bR p hp).1), if_pos rfl, ((hL.2.2 i hi).1 ht).2.2, ((hL.2.2 i hi).1 ht).2.1, hPj, mL, mR]
      unfold ga
      rw [gaR_o, gaL_o]
      rfl
  · have b1 : (lef (q 64 (q_nu c j)).toInt ll).natAbs ≤ 200 := by
      cases ll with
      | none => show (1 : Int).natAbs ≤ 200; decide
      | some p => have := bL p rfl; unfold bd at hbs; show ((q 64 (q_nu c j)).toInt - p).natAbs ≤ 200; omega
    have b2 : (rig (q 64 (q_nu c j)).toInt rr).natAbs ≤ 200 := by
      cases rr with
      | none => show (1 : Int).natAbs ≤ 200; decide
      | some p => have := bR p rfl; unfold bd at hbs; show (p - (q 64 (q_nu c j)).toInt).natAbs ≤ 200; omega
    have := mul_bd b1 b2
    omega
  · have := sumI_bd (f := fun k => wT true (mY q k) (mA q k) (q 64 (q_nu c j)).toInt ll rr) (k := K) (B := 100000 * 200 * 200) (fun k hk => wT_bd (hA k hk) (fun _ => r_y hL k hk) hbs (fun p hp => (bL p hp).2) (fun p hp => (bR p hp).2))
    have hK := r_K hL
    have h2 : K * (100000 * 200 * 200) ≤ 5 * (100000 * 200 * 200) := Nat.mul_le_mul_right _ hK
    omega
theorem r_vbd (hS : rS q n I c) (hR : rR q c) (hL : rL q K l) (hT : rT q n I c set T) {x : Int32} (hx : bd x) : (vlu q K n set x).natAbs ≤ 1000000000000 := by
  obtain ⟨_, h1, h2⟩ := r_volt (x := x) hS hR hL hT
  have s3 := hS.2.2.1
  have hA : ∀ k, k < K → (mA q k).natAbs ≤ 100000 := fun k hk => by
    rw [hL.2.1] at hk
    obtain ⟨i, h1, h2, h3⟩ := cntB_at hk
    have := ((hL.2.2 i h1).1 h2).2.2
    rw [h3] at this
    rw [this]; exact (hL.2.2 i h1).2.1
  have hK := r_K hL
  have hSb : (fvS q K x.toInt (nbL q set x n) (nbR q set x n)).natAbs ≤ 5 * (100000 * 200 * 200) := by
    have g1 : ∀ s, s < n → (sumI (fun k => tmY true (mY q k) (mA q k) (mP q s) x.toInt) K).natAbs ≤ 5 * (100000 * 200 * 200) := fun s hs => by
      have := sumI_bd (f := fun k => tmY true (mY q k) (mA q k) (mP q s) x.toInt) (k := K) (B := 100000 * 200) (fun k hk => tmY_bd (fun _ => r_y hL k hk) (hA k hk) (s3 s hs) hx)
      exact Nat.le_trans this (Nat.le_trans (Nat.mul_le_mul_right _ hK) (by decide))
    cases hl : nbL q set x n with
    | none =>
      cases hr : nbR q set x n with
      | none => exact Nat.zero_le _
      | some r => exact g1 r (nbR_lt hr)
    | some p =>
      cases hr : nbR q set x n with
      | none => exact g1 p (nbL_lt hl)
      | some r =>
        have := sumI_bd (f := fun k => tmB true (mY q k) (mA q k) (mP q p) (mP q r) x.toInt) (k := K) (B := 100000 * 200 * 200) (fun k hk => tmB_bd (fun _ => r_y hL k hk) (hA k hk) (s3 p (nbL_lt hl)) (s3 r (nbR_lt hr)) hx)
        exact Nat.le_trans this (Nat.mul_le_mul_right _ hK)
  have e1 := mul_bd (A := 2000) (B := 200000) hR.2.1 (b := vld q n set x) (by omega)
  have e2 := mul_bd hR.2.2.1 hSb
  show ((q 62 2).toInt * vld q n set x - (q 62 1).toInt * fvS q K x.toInt (nbL q set x n) (nbR q set x n)).natAbs ≤ _
  have := Int.natAbs_sub_le ((q 62 2).toInt * vld q n set x) ((q 62 1).toInt * fvS q K x.toInt (nbL q set x n) (nbR q set x n))
  omega
theorem q_l_at (hS : rS q n I c) {j : Nat} (hj : j < q_m c) (hTj : T j = false) : q_l (q_P c) (q_m c) T (q_P c j) = Lj T j ∧ q_r (q_P c) (q_m c) T (q_P c j) = Rj T (q_m c) j := by
  unfold Lj Rj
  rw [if_neg (by simp [hTj]), if_neg (by simp [hTj])]
  constructor
  · cases h1 : q_l (q_P c) (q_m c) T (q_P c j) with
    | none =>
      cases h2 : prvi T j with
      | none => rfl
      | some p =>
        obtain ⟨g1, g2, _⟩ := prvi_some h2
        have := prvi_none h1 p (by omega)
        have h3 := P_mono hS (show p ≤ j by omega) hj
        simp [g2, h3] at this
    | some i =>
      obtain ⟨k1, k2, k3⟩ := prvi_some h1
      simp only [Bool.and_eq_true, decide_eq_true_eq] at k2
      have hij : i < j := by
        rcases (show i < j ∨ i = j ∨ j < i by omega) with z | z | z
        · exact z
        · rw [z, hTj] at k2; cases k2.1
        · have := hS.2.2.2.2.2.2.2.2 j i z k1; grind
      cases h2 : prvi T j with
      | none => have := prvi_none h2 i hij; rw [k2.1] at this; cases this
      | some p =>
        obtain ⟨g1, g2, g3⟩ := prvi_some h2
        have a1 : ¬ p < i := fun z => by have := g3 i z hij; rw [k2.1] at this; cases this
        have a2 : ¬ i < p := fun z => by
          have := k3 p z (by omega)
          have h3 := P_mono hS (show p ≤ j by omega) hj
          simp [g2, h3] at this
        rw [show i = p by omega]
  · unfold nxti
    cases h1 : q_r (q_P c) (q_m c) T (q_P c j) with
    | none =>
      cases h2 : fsti T (j + 1) (q_m c - (j + 1)) with
      | none => rfl
      | some p =>
        obtain ⟨g0, g1, g2, _⟩ := fsti_some h2
        have := fsti_none h1 p (by omega) (by omega)
        have h3 := P_mono hS (show j ≤ p by omega) (by omega)
        simp [g2, h3] at this
    | some i =>
      obtain ⟨_, k1, k2, k3⟩ := fsti_some h1
      simp only [Bool.and_eq_true, decide_eq_true_eq] at k2
      have hij : j < i := by
        rcases (show j < i ∨ i = j ∨ i < j by omega) with z | z | z
        · exact z
        · rw [z, hTj] at k2; cases k2.1
        · have := hS.2.2.2.2.2.2.2.2 i j z hj; grind
      cases h2 : fsti T (j + 1) (q_m c - (j + 1)) with
      | none => have := fsti_none h2 i (by omega) (by omega); rw [k2.1] at this; cases this
      | some p =>
        obtain ⟨g0, g1, g2, g3⟩ := fsti_some h2
        have a1 : ¬ i < p := fun z => by have := g3 i (by omega) z; rw [k2.1] at this; cases this
        have a2 : ¬ p < i := fun z => by
          have := k3 p (by omega) z
          have h3 := P_mono hS (show j ≤ p by omega) (by omega)
          simp [g2, h3] at this
        rw [show i = p by omega]
theorem q_v_at (hS : rS q n I c) {j : Nat} (hj : j < q_m c) (hTj : T j = false) : q_v c T l (q_P c j) = c.1.1 - c.1.2.1 / 1000 * vS (q_P c) T (q_m c) 5 (q_a l) (q_y l) j := by
  obtain ⟨e1, e2⟩ := q_l_at (T := T) hS hj hTj
  unfold q_v vS om
  rw [e1, e2]
/-- a set feeds -/
theorem r_dfR (hS : rS q n I c) (hR : rR q c) (hL : rL q K l) (hT : rT q n I c set T) : ∀ (k s : Nat) (ml : Nat → Nat → Int64), s + k = n → ((dfR q K n set (nI I) k s ml).1 = true ↔ ∀ t, s ≤ t → t < n → (bt set t = true → 0 ≤ gvu q K n set t) ∧ (¬ bt set t = true → bt (nI I) t = true → (q 62 2).toInt * vld q n set (q 64 t) ≤ vlu q K n set (q 64 t))) := by
  intro k
  induction k with
  | zero => intro s ml h; simp only [dfR]; exact ⟨fun _ t h1 h2 => by omega, fun _ => trivial⟩
  | succ k ih =>
    intro s ml h
    have hs : s < n := by omega
    rw [dfR]
    have split : ∀ (A : Nat → Prop), (∀ t, s ≤ t → t < n → A t) ↔ A s ∧ ∀ t, s + 1 ≤ t → t < n → A t := fun A => ⟨fun z => ⟨z s (Nat.le_refl _) hs, fun t h1 h2 => z t (by omega) h2⟩, fun z t h1 h2 => by
      by_cases e : t = s
      · rw [e]; exact z.1
      · exact z.2 t (by omega) h2⟩
    rw [split]
    by_cases h1 : bt set s = true
    · rw [if_pos h1]
      obtain ⟨j, hj, rfl⟩ := hS.2.2.2.2.2.2.2.1 s hs (hT.1 s hs h1)
      have hb := (r_give hS hL hT hj).2.2.2
      have hq : ((0 : Int64) ≤ Int64.ofInt (gvu q K n set (q_nu c j))) = (0 ≤ gvu q K n set (q_nu c j)) := propext (i64_le (a := 0) (by decide) (by omega))
      by_cases h2 : 0 ≤ gvu q K n set (q_nu c j)
      · rw [if_pos (hq ▸ h2), ih _ _ (by omega)]
        exact ⟨fun z => ⟨⟨fun _ => h2, fun z => absurd h1 z⟩, z⟩, fun z => z.2⟩
      · rw [if_neg (fun z => h2 (hq ▸ z))]
        exact ⟨fun z => (by cases z), fun z => absurd (z.1.1 h1) h2⟩
    · rw [if_neg h1]
      by_cases h3 : bt (nI I) s = true
      · rw [if_pos h3]
        have hx := hS.2.2.1 s hs
        have b1 := r_vbd hS hR hL hT hx
        obtain ⟨_, b2, b3⟩ := r_volt (x := q 64 s) hS hR hL hT
        have e1 := mul_bd (A := 2000) (B := 200000) hR.2.1 (b := vld q n set (q 64 s)) (by omega)
        have hq : ((q 62 2).toInt64 * Int64.ofInt (vld q n set (q 64 s)) ≤ Int64.ofInt (vlu q K n set (q 64 s))) = ((q 62 2).toInt * vld q n set (q 64 s) ≤ vlu q K n set (q 64 s)) := by
          rw [i64_of, ← Int64.ofInt_mul]
          exact propext (i64_le (by omega) (by omega))
        by_cases h2 : (q 62 2).toInt * vld q n set (q 64 s) ≤ vlu q K n set (q 64 s)
        · rw [if_pos (hq ▸ h2), ih _ _ (by omega)]
          exact ⟨fun z => ⟨⟨fun z => absurd z h1, fun _ _ => h2⟩, z⟩, fun z => z.2⟩
        · rw [if_neg (fun z => h2 (hq ▸ z))]
          exact ⟨fun z => (by cases z), fun z => absurd (z.1.2 h1 h3) h2⟩
      · rw [if_neg h3, ih _ _ (by omega)]
        exact ⟨fun z => ⟨⟨fun z => absurd z h1, fun _ z => absurd z h3⟩, z⟩, fun z => z.2⟩
theorem r_fds (hS : rS q n I c) (hR : rR q c) (hL : rL q K l) (hT : rT q n I c set T) (ml : Nat → Nat → Int64) : ((dfR q K n set (nI I) n 0 ml).1 = true ↔ fds (q_m c) T (vS (q_P c) T (q_m c) 5 (q_a l) (q_y l)) (gS (q_P c) T (q_m c) 5 (q_a l) (q_y l))) := by
  rw [r_dfR hS hR hL hT n 0 ml (by omega)]
  obtain ⟨s1, s2, s3, s4, s5, s6, s7, s8, s9⟩ := id hS
  have gv : ∀ j, j < q_m c → (0 ≤ gvu q K n set (q_nu c j) ↔ 0 ≤ gS (q_P c) T (q_m c) 5 (q_a l) (q_y l) j) := fun j hj => by
    obtain ⟨g1, g2, _⟩ := r_give hS hL hT hj
    exact (rat_sgn g2 g1).2.2
  have vv : ∀ j, j < q_m c → T j = false → ((q 62 2).toInt * vld q n set (q 64 (q_nu c j)) ≤ vlu q K n set (q 64 (q_nu c j)) ↔ vS (q_P c) T (q_m c) 5 (q_a l) (q_y l) j ≤ 0) := fun j hj hTj => by
    obtain ⟨g1, g2, _⟩ := r_volt (x := q 64 (q_nu c j)) hS hR hL hT
    have e : qI (q 64 (q_nu c j)).toInt = q_P c j := (s7 j hj).2.1
    rw [e, q_v_at hS hj hTj, ← hR.1.1, ← hR.1.2.1] at g1
    rw [← qI_le, qI_mul, g1]
    have hD : 0 < qI (vld q n set (q 64 (q_nu c j))) := qI_lt.mpr g2
    have hRp : 0 < qI (q 62 1).toInt := qI_lt.mpr hR.2.2.2.2.2
    generalize qI (vld q n set (q 64 (q_nu c j))) = D at *
    generalize qI (q 62 2).toInt = V at *
    generalize qI (q 62 1).toInt = R at *
    generalize vS (q_P c) T (q_m c) 5 (q_a l) (q_y l) j = v at *
    have hp : 0 < R / 1000 * D := Rat.mul_pos (by grind) hD
    constructor
    · intro h
      rcases (show v ≤ 0 ∨ 0 < v by grind) with z | z
      · exact z
      · have := Rat.mul_pos hp z; grind
    · intro h
      have := Rat.mul_le_mul_of_nonneg_left (c := R / 1000 * D) h (by grind)
      grind
  constructor
  · intro h
    refine ⟨fun j hj hTj => ?_, fun j hj hTj => ?_⟩
    · exact (gv j hj).mp ((h _ (by omega) (s7 j hj).1).1 (by rw [← hT.2 j hj]; exact hTj))
    · exact (vv j hj hTj).mp ((h _ (by omega) (s7 j hj).1).2 (by rw [← hT.2 j hj]; simp [hTj]) (s7 j hj).2.2)
  · intro h t _ ht
    refine ⟨fun hb => ?_, fun hb hi => ?_⟩
    · obtain ⟨j, hj, rfl⟩ := s8 t ht (hT.1 t ht hb)
      exact (gv j hj).mpr (h.1 j hj (by rw [hT.2 j hj]; exact hb))
    · obtain ⟨j, hj, rfl⟩ := s8 t ht hi
      have hTj : T j = false := by rw [hT.2 j hj]; simpa using hb
      exact (vv j hj hTj).mpr (h.2 j hj hTj)
end Rg
