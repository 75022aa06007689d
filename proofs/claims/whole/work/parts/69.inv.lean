/-! WHAT HOLDS BETWEEN TWO CALLS -/
def iA (q : Nat → Nat → Int32) (n nt : Nat) : Prop := LI q n nt ∧ (∀ s, s < 5 → (q (6 + s) 2 = 0 ∨ q (6 + s) 2 = 1) ∧ 0 ≤ (q (6 + s) 3).toInt ∧ (q (6 + s) 3).toInt ≤ 100000) ∧ (∀ s, n ≤ s → s < 5 → q (6 + s) 2 = 1 ∧ q (6 + s) 3 = 3000) ∧ (∀ s, s < n → (0 ≤ (q (6 + s) 0).toInt ∧ (q (6 + s) 0).toInt ≤ 2) ∧ (sP q s).toInt ≤ (q 2 0).toInt) ∧ (∀ k, k < nt → ∀ t, t < 24 → tP q k t = -1 ∨ (tP q k t).toInt ≤ (q 2 0).toInt) ∧ ∀ k, nt ≤ k → k < 5 → (∀ t, t < 24 → tP q k t = -1) ∧ q 5 k = 0
def iR (q : Nat → Nat → Int32) (n nt : Nat) : Prop := q 61 3 = nI n ∧ (∀ b, b < 5 → q 62 b = q 2 b) ∧ (∀ s, s < n → q 63 s = q (6 + s) 0 ∧ q 64 s = q (6 + s) 1 ∧ q 65 s = (if q (6 + s) 2 = 0 then 1 else 0) ∧ q 66 s = q (6 + s) 3) ∧ rW q nt (LN q) (kO (LN q))
def iS (q : Nat → Nat → Int32) : Prop := ∀ k, k < 4 → ((q (52 + 2 * k) 1 = -1 ∧ q 70 k = -9) ∨ (q 70 k = q (52 + 2 * k) 1 ∧ (0 ≤ (q 70 k).toInt ∧ (q 70 k).toInt ≤ 2) ∧ q 71 k = q (52 + 2 * k) 2 ∧ 0 ≤ (q 71 k).toInt ∧ (q 71 k).toInt ≤ 60)) ∧ ∀ i, i < 60 → q 72 (60 * k + i) = q (53 + 2 * k) i
def iT (q : Nat → Nat → Int32) : Prop := q 0 4 = q 61 1 ∧ q 0 5 = q 61 0
def iB (q : Nat → Nat → Int32) (s : Nat → Nat → Int64) (n nt : Nat) : Prop := (q 26 8 = 0 ∨ q 26 8 = 1) ∧ (q 26 8 = 1 → q 26 7 = oM ((d_best (LN q) n nt ((q 2 0).toInt.toNat + 1)).map (fun b => b.2)) ∧ ∀ v x, d_best (LN q) n nt ((q 2 0).toInt.toNat + 1) = some (v, x) → fr2 (s 30 0) (s 30 1) v 1000000000000)
def iP (q : Nat → Nat → Int32) (s : Nat → Nat → Int64) (n nt : Nat) : Prop := ∀ d, d < 2 → (q (45 + 3 * d) 2 = 0 ∨ q (45 + 3 * d) 2 = 1) ∧ (q (45 + 3 * d) 2 = 1 → ∃ v w, d_pk (kC (LN q) (-9) n) (LN q) nt (d + 2) ((d + 2) ^ nt) = some (v, w) ∧ fr2 (s (46 + 3 * d) 0) (s (46 + 3 * d) 1) v 1000000000000 ∧ ∀ k, k < nt → q (47 + 3 * d) k = nI (d_off (d + 2) nt w k))
def INV (q : Nat → Nat → Int32) (s : Nat → Nat → Int64) (n nt : Nat) : Prop := iA q n nt ∧ iR q n nt ∧ iS q ∧ iT q ∧ iB q s n nt ∧ iP q s n nt
/-- cells of the state -/
def sc (n : Nat) (p q : Nat → Nat → Int32) : Prop := ∀ a b, (a ≤ 25 ∨ (a = 26 ∧ (b = 7 ∨ b = 8)) ∨ (a = 45 ∨ a = 47 ∨ a = 48 ∨ (50 ≤ a ∧ a ≤ 59)) ∨ (a = 61 ∧ (b = 0 ∨ b = 1 ∨ b = 3 ∨ b = 8)) ∨ a = 62 ∨ a = 63 ∨ ((a = 64 ∨ a = 65) ∧ b < n) ∨ (66 ≤ a ∧ a ≤ 72)) → p a b = q a b
/-- the same, caches left out -/
def sc0 (n : Nat) (p q : Nat → Nat → Int32) : Prop := ∀ a b, ((1 ≤ a ∧ a ≤ 25) ∨ (a = 61 ∧ (b = 3 ∨ b = 8)) ∨ a = 62 ∨ a = 63 ∨ ((a = 64 ∨ a = 65) ∧ b < n) ∨ (66 ≤ a ∧ a ≤ 69)) → p a b = q a b
def sl (r s : Nat → Nat → Int64) : Prop := ∀ a b, a = 30 ∨ a = 46 ∨ a = 49 → r a b = s a b
section Iv
variable {p q : Nat → Nat → Int32} {r s : Nat → Nat → Int64} {n nt : Nat}
theorem sc_f2 (h : f2 p q) : sc n p q := fun a b z => h a b (by omega) (by omega) (by omega) (by omega) (by omega) (by omega) (by omega) (by omega) (by omega)
theorem sc_h1 (h : h1 p q) : sc n p q := fun a b z => h a b (by omega) (by omega) (by omega) (by omega) (by omega) (by omega)
theorem sc_tr {o : Nat → Nat → Int32} (a1 : sc n o p) (a2 : sc n p q) : sc n o q := fun a b z => by rw [a1 a b z, a2 a b z]
theorem sl_g1 (h : g1 r s) : sl r s := fun a b z => h a b (by omega) (by omega) (by omega) (by omega) (by omega) (by omega) (by omega) (by omega) (by omega)
theorem sl_k1 (h : k1 r s) : sl r s := fun a b z => h a b (by omega)
theorem sc_0 (h : sc n p q) : sc0 n p q := fun a b z => h a b (by omega)
theorem LN_sc (h : sc n p q) : LN p = LN q := LN_cg (fun a b h1 _ => h a b (by omega))
theorem LN_sc0 (h : sc0 n p q) : LN p = LN q := LN_cg (fun a b h1 _ => h a b (by omega))
theorem LI_sc (h : sc0 n p q) (hl : LI q n nt) : LI p n nt := by
  obtain ⟨⟨l1, l2⟩, l3, l4, l5, l6⟩ := hl
  refine ⟨⟨by rw [h 1 4 (by omega)]; exact l1, by rw [h 1 5 (by omega)]; exact l2⟩, by rw [LN_sc0 h]; exact l3, by rw [LN_sc0 h]; exact l4, by rw [LN_sc0 h]; exact l5, fun k hk => ?_⟩
  unfold oF
  rw [h 5 k (by omega)]
  exact l6 k hk
theorem iA_sc (h : sc0 n p q) (hi : iA q n nt) : iA p n nt := by
  obtain ⟨a1, a2, a3, a4, a5, a6⟩ := hi
  have hn5 : n ≤ 5 := a1.2.1.1
  have hnt5 : nt ≤ 5 := a1.2.2.2.1.1
  refine ⟨LI_sc h a1, fun s hs => ?_, fun s hs hs5 => ?_, fun s hs => ?_, fun k hk t ht => ?_, fun k hk hk5 => ⟨fun t ht => ?_, ?_⟩⟩
  · rw [h (6 + s) 2 (by omega), h (6 + s) 3 (by omega)]; exact a2 s hs
  · rw [h (6 + s) 2 (by omega), h (6 + s) 3 (by omega)]; exact a3 s hs hs5
  · unfold sP; rw [h (6 + s) 0 (by omega), h (6 + s) 1 (by omega), h 2 0 (by omega)]; exact a4 s hs
  · unfold tP; rw [h (12 + 3 * k) t (by omega), h 2 0 (by omega)]; exact a5 k hk t ht
  · unfold tP; rw [h (12 + 3 * k) t (by omega)]; exact (a6 k hk hk5).1 t ht
  · rw [h 5 k (by omega)]; exact (a6 k hk hk5).2
theorem iR_sc (h : sc0 n p q) (hn5 : n ≤ 5) (hi : iR q n nt) : iR p n nt := by
  obtain ⟨a1, a2, a3, w1, w2, w3, w4⟩ := hi
  refine ⟨by rw [h 61 3 (by omega)]; exact a1, fun b hb => by rw [h 62 b (by omega), h 2 b (by omega)]; exact a2 b hb, fun s hs => ?_, by rw [h 61 8 (by omega)]; exact w1, fun k hk => ?_, fun k hk t ht => ?_, fun j hj => by rw [h 67 j (by omega)]; exact w4 j hj⟩
  · rw [h 63 s (by omega), h 64 s (by omega), h 65 s (by omega), h 66 s (by omega), h (6 + s) 0 (by omega), h (6 + s) 1 (by omega), h (6 + s) 2 (by omega), h (6 + s) 3 (by omega)]; exact a3 s hs
  · rw [h 69 k (by omega), LN_sc0 h]; exact w2 k hk
  · rw [h 67 _ (by omega), h 68 _ (by omega), LN_sc0 h]; exact w3 k hk t ht
theorem iS_sc (h : ∀ a b, (51 ≤ a ∧ a ≤ 59) ∨ (70 ≤ a ∧ a ≤ 72) → p a b = q a b) (hi : iS q) : iS p := fun k hk => by
  rw [h (52 + 2 * k) 1 (by omega), h 70 k (by omega), h 71 k (by omega), h (52 + 2 * k) 2 (by omega)]
  exact ⟨(hi k hk).1, fun i hi2 => by rw [h 72 _ (by omega), h (53 + 2 * k) i (by omega)]; exact (hi k hk).2 i hi2⟩
theorem iB_sc (h : sc0 n p q) (h7 : p 26 7 = q 26 7) (h8 : p 26 8 = q 26 8) (hl : ∀ b, r 30 b = s 30 b) (hi : iB q s n nt) : iB p r n nt := by
  unfold iB
  rw [h8, h7, h 2 0 (by omega), LN_sc0 h, hl 0, hl 1]
  exact hi
theorem iP_sc (h : sc0 n p q) {d : Nat} (h5 : p (45 + 3 * d) 2 = q (45 + 3 * d) 2) (h7 : ∀ b, p (47 + 3 * d) b = q (47 + 3 * d) b) (hl : ∀ b, r (46 + 3 * d) b = s (46 + 3 * d) b) (hd : d < 2) (hi : iP q s n nt) : (p (45 + 3 * d) 2 = 0 ∨ p (45 + 3 * d) 2 = 1) ∧ (p (45 + 3 * d) 2 = 1 → ∃ v w, d_pk (kC (LN p) (-9) n) (LN p) nt (d + 2) ((d + 2) ^ nt) = some (v, w) ∧ fr2 (r (46 + 3 * d) 0) (r (46 + 3 * d) 1) v 1000000000000 ∧ ∀ k, k < nt → p (47 + 3 * d) k = nI (d_off (d + 2) nt w k)) := by
  rw [h5, LN_sc0 h, hl 0, hl 1]
  simp only [h7]
  exact hi d hd
theorem iT_sc (h4 : p 0 4 = q 0 4) (h5 : p 0 5 = q 0 5) (h1 : p 61 1 = q 61 1) (h0 : p 61 0 = q 61 0) (hi : iT q) : iT p := by
  unfold iT
  rw [h4, h5, h1, h0]
  exact hi
theorem INV_of (hi : INV q s n nt) (h : sc n p q) (hl : sl r s) : INV p r n nt := by
  obtain ⟨a1, a2, a3, a4, a5, a6⟩ := hi
  have h0 := sc_0 h
  exact ⟨iA_sc h0 a1, iR_sc h0 a1.1.2.1.1 a2, iS_sc (fun a b z => h a b (by omega)) a3, iT_sc (h 0 4 (by omega)) (h 0 5 (by omega)) (h 61 1 (by omega)) (h 61 0 (by omega)) a4, iB_sc h0 (h 26 7 (by omega)) (h 26 8 (by omega)) (fun b => hl 30 b (by omega)) a5, fun d hd => iP_sc h0 (h _ _ (by omega)) (fun b => h _ _ (by omega)) (fun b => hl _ _ (by omega)) hd a6⟩
/-- sheets, trace or fault have changed -/
theorem INV_tf (hi : INV q s n nt) (h0 : sc0 n p q) (hc : ∀ a b, (a = 26 ∧ (b = 7 ∨ b = 8)) ∨ a = 45 ∨ a = 47 ∨ a = 48 ∨ a = 50 → p a b = q a b) (hS : iS p) (hT : iT p) : INV p s n nt := by
  obtain ⟨a1, a2, a3, a4, a5, a6⟩ := hi
  exact ⟨iA_sc h0 a1, iR_sc h0 a1.1.2.1.1 a2, hS, hT, iB_sc h0 (hc 26 7 (by omega)) (hc 26 8 (by omega)) (fun b => rfl) a5, fun d hd => iP_sc h0 (hc _ _ (by omega)) (fun b => hc _ _ (by omega)) (fun b => rfl) hd a6⟩
/-- the reference's stations are those of the line, but w -/
theorem i_rS (hi : INV q s n nt) : ∃ I, rZ q n I nt (kC (LN q) (-9) n) (LN q) (kO (LN q)) := by
  obtain ⟨a1, ⟨b1, b2, b3, b4⟩, _⟩ := hi
  have hl := a1.1
  have hn5 : n ≤ 5 := hl.2.1.1
  obtain ⟨I, hI⟩ := kC_rS (q := q) (w := -9) hl.2.1 b1 (fun s hs => by rw [(b3 s hs).2.1, LN_sP (by omega)]; rfl) (fun s hs => by
    rw [(b3 s hs).2.2.1, tkS_in (by omega), LN_sI (by omega)]
    unfold sI
    by_cases h : q (6 + s) 2 = 0
    · simp [h]
    · simp [h])
  exact ⟨I, hI, kC_rR hl.2.2.1 (fun b hb => by rw [b2 b hb, LN_2]), b4⟩
/-- dark -/
def dk (q : Nat → Nat → Int32) (n : Nat) : Prop := q_m (kC (LN q) (-9) n) = 0
theorem i_dk1 (hi : INV q s n nt) : (cntB (sI q) n = 0) = dk q n := by
  have hn5 : n ≤ 5 := hi.1.1.2.1.1
  unfold dk
  show _ = (cntB (tkS (LN q) (-9)) n = 0)
  rw [cntB_cg (f := tkS (LN q) (-9)) (g := sI q) (fun i hi2 => by rw [tkS_in (by omega), LN_sI (by omega)])]
theorem i_dk2 (hi : INV q s n nt) : (inF q n = 0) = dk q n := by
  obtain ⟨I, hZ⟩ := i_rS hi
  obtain ⟨s1, s2, s3, s4, s5, s6, s7, s8, s9⟩ := hZ.1
  have hI := I_lt hZ.1
  unfold dk
  rw [s4]
  apply propext
  constructor
  · intro h
    have h0 : I = 0 := (nI_eq (b := 0) (by omega) (by decide)).mp h
    rcases Nat.eq_zero_or_pos (q_m (kC (LN q) (-9) n)) with z | z
    · exact z
    · exfalso
      have := (s7 0 z).2.2
      have h5 := (s7 0 z).1
      have := bt_pow (a := I) (s := q_nu (kC (LN q) (-9) n) 0) (by omega) (by omega) this
      have hp : 0 < 2 ^ q_nu (kC (LN q) (-9) n) 0 := Nat.pow_pos (by decide)
      omega
  · intro h
    rcases Nat.eq_zero_or_pos I with z | z
    · rw [z]; rfl
    · exfalso
      obtain ⟨t, t1, t2⟩ := bt_ex hI z
      obtain ⟨j, hj, _⟩ := bt_in hZ.1 t1 t2
      omega
theorem rng_n {x : Int32} {N : Nat} (hN : N < 1000) (h0 : 0 ≤ x) (h : x < nI N) : ∃ k, k < N ∧ x = nI k := by
  rw [Int32.lt_iff_toInt_lt, nI_toInt (by omega)] at h
  rw [Int32.le_iff_toInt_le] at h0
  have z : (0 : Int32).toInt = 0 := rfl
  refine ⟨x.toInt.toNat, by omega, ?_⟩
  rw [← Int32.toInt_inj, nI_toInt (by omega)]
  omega
theorem t23 {x : Int32} : (0 ≤ x ∧ x ≤ 23) = (0 ≤ x ∧ x < 24) := by
  have h1 : (23 : Int32).toInt = 23 := rfl
  have h2 : (24 : Int32).toInt = 24 := rfl
  rw [Int32.le_iff_toInt_le, Int32.le_iff_toInt_le, Int32.lt_iff_toInt_lt, h1, h2]
  apply propext
  omega
theorem t3 {x : Int32} : (0 ≤ x ∧ x ≤ 3) = (0 ≤ x ∧ x < 4) := by
  have h1 : (3 : Int32).toInt = 3 := rfl
  have h2 : (4 : Int32).toInt = 4 := rfl
  rw [Int32.le_iff_toInt_le, Int32.le_iff_toInt_le, Int32.lt_iff_toInt_lt, h1, h2]
  apply propext
  omega
theorem t01 {x : Int32} : (0 ≤ x ∧ x ≤ 1) = (x = 0 ∨ x = 1) := by
  have h0 : (0 : Int32).toInt = 0 := rfl
  have h1 : (1 : Int32).toInt = 1 := rfl
  rw [Int32.le_iff_toInt_le, Int32.le_iff_toInt_le, ← Int32.toInt_inj, ← Int32.toInt_inj, h0, h1]
  apply propext
  omega
end Iv
/-- one call of both, an int or a long answered -/
def OPi (E : aE) (M1 M2 : Nat) (L1 L2 : List Value) (q : Nat → Nat → Int32) (s : Nat → Nat → Int64) : Prop := ∃ (v : Int32) (p : Nat → Nat → Int32) (r : Nat → Nat → Int64) (p2 : Nat → Nat → Int32) (r2 : Nat → Nat → Int64) (n nt : Nat), ev E M1 (am_B M1 0) L1 [] (HH q s) = some (some (.int v), HH p r) ∧ ev E M2 (am_B M2 0) L2 [] (HH p r) = some (some (.int v), HH p2 r2) ∧ INV p2 r2 n nt
def OPl (E : aE) (M1 M2 : Nat) (L1 L2 : List Value) (q : Nat → Nat → Int32) (s : Nat → Nat → Int64) : Prop := ∃ (v : Int64) (p : Nat → Nat → Int32) (r : Nat → Nat → Int64) (p2 : Nat → Nat → Int32) (r2 : Nat → Nat → Int64) (n nt : Nat), ev E M1 (am_B M1 0) L1 [] (HH q s) = some (some (.long v), HH p r) ∧ ev E M2 (am_B M2 0) L2 [] (HH p r) = some (some (.long v), HH p2 r2) ∧ INV p2 r2 n nt
