/-! LOADS WITHOUT CELLS; ONE TICK OF THE CLASS -/
def kth (L : Nat → Nat → Int32) (off : Nat → Nat) (nt t n : Nat) : Bool := decide (n < nt ∧ off n ≤ t ∧ ¬ tP L n (t - off n) = -1)
def kL (L : Nat → Nat → Int32) (off : Nat → Nat) (nt t : Nat) : qL := (kth L off nt t, fun n => qI (tP L n (t - off n)).toInt, fun n => if kth L off nt t n = true then (tA L n (t - off n)).toInt else 0)
/-- trains as they may be -/
def LiT (L : Nat → Nat → Int32) (nt : Nat) : Prop := nt ≤ 5 ∧ ∀ k, k < nt → ∀ t, t < 24 → tP L k t = -1 ∨ (bd (tP L k t) ∧ (tA L k t).toInt.natAbs ≤ 400)
theorem kL_bd {L : Nat → Nat → Int32} {off : Nat → Nat} {nt t : Nat} (hT : LiT L nt) (ht : t < 24) : ∀ n, (kth L off nt t n = true → n < nt ∧ off n ≤ t ∧ bd (tP L n (t - off n)) ∧ (tA L n (t - off n)).toInt.natAbs ≤ 400) ∧ (q_am (kL L off nt t) n).natAbs ≤ 400 ∧ (q_th (kL L off nt t) n = false → q_am (kL L off nt t) n = 0) := by
  intro n
  have h1 : kth L off nt t n = true → n < nt ∧ off n ≤ t ∧ bd (tP L n (t - off n)) ∧ (tA L n (t - off n)).toInt.natAbs ≤ 400 := fun h => by
    unfold kth at h
    rw [decide_eq_true_eq] at h
    rcases hT.2 n h.1 (t - off n) (by omega) with z | z
    · exact absurd z h.2.2
    · exact ⟨h.1, h.2.1, z⟩
  have e : q_am (kL L off nt t) n = if kth L off nt t n = true then (tA L n (t - off n)).toInt else 0 := rfl
  refine ⟨h1, ?_, fun h => ?_⟩
  · rw [e]
    split
    · rename_i h; exact (h1 h).2.2.2
    · decide
  · have h2 : kth L off nt t n = false := h
    rw [e, h2]; rfl
theorem tkl_row {q : Nat → Nat → Int32} {k t : Nat} : ∀ {i : Nat}, i ≤ 5 → (∀ n, n < 5 → tkl q k t i 40 n = (if n < i ∧ ldH q k t n = true then 1 else 0) ∧ (n < i → ldH q k t n = true → tkl q k t i 41 n = tP q n (t - oF q k n) ∧ tkl q k t i 42 n = tA q n (t - oF q k n)) ∧ (¬ (n < i ∧ ldH q k t n = true) → tkl q k t i 42 n = 0)) := by
  intro i
  induction i with
  | zero =>
    intro _ n hn
    have e : ∀ a, (a = 40 ∨ a = 42) → tkl q k t 0 a n = 0 := fun a h => by unfold tkl clr2; rw [if_pos ⟨h, hn⟩]
    refine ⟨by rw [e 40 (by simp), if_neg (by omega)], fun h => by omega, fun _ => e 42 (by simp)⟩
  | succ i ih =>
    intro hi n hn
    obtain ⟨h1, h2, h3⟩ := ih (by omega) n hn
    rw [tkl]
    by_cases hc : ldH q k t i = true
    · rw [if_pos hc]
      by_cases e : n = i
      · subst e
        refine ⟨?_, fun _ _ => ⟨?_, ?_⟩, fun z => absurd ⟨by omega, hc⟩ z⟩
        · rw [am_upa, if_neg (by omega), am_upa, if_neg (by omega), am_up_self, if_pos ⟨by omega, hc⟩]
        · rw [am_upa, if_neg (by omega), am_up_self]
        · rw [am_up_self]
      · have ne : ∀ a, am_up (am_up (am_up (tkl q k t i) 40 i 1) 41 i (tP q i (t - oF q k i))) 42 i (tA q i (t - oF q k i)) a n = tkl q k t i a n := fun a => by
          rw [am_upa, if_neg (fun z => e z.2), am_upa, if_neg (fun z => e z.2), am_upa, if_neg (fun z => e z.2)]
        have el : (n < i + 1) = (n < i) := propext ⟨fun z => by omega, fun z => by omega⟩
        rw [ne, ne, ne]
        simp only [el]
        exact ⟨h1, h2, h3⟩
    · rw [if_neg hc]
      by_cases e : n = i
      · subst e
        refine ⟨?_, fun _ z => absurd z hc, fun _ => ?_⟩
        · rw [h1, if_neg (by omega), if_neg (fun z => hc z.2)]
        · exact h3 (by omega)
      · have el : (n < i + 1) = (n < i) := propext ⟨fun z => by omega, fun z => by omega⟩
        simp only [el]
        exact ⟨h1, h2, h3⟩
theorem c_load {q L : Nat → Nat → Int32} {off : Nat → Nat} {k nt t : Nat} (hT : LiT L nt) (ht : t < 24) (e : ∀ n, n < 5 → ∀ u, tP q n u = tP L n u ∧ tA q n u = tA L n u) (ho : ∀ n, n < nt → oF q k n = off n) : cL (tkl q k t nt) (kL L off nt t) ∧ ∀ n, n < nt → ldH q k t n = q_th (kL L off nt t) n := by
  have hl : ∀ n, n < nt → ldH q k t n = kth L off nt t n := fun n hn => by
    have h5 := hT.1
    unfold ldH kth
    rw [ho n hn, (e n (by omega) _).1]
    simp [hn]
  refine ⟨fun n hn => ?_, hl⟩
  obtain ⟨r1, r2, r3⟩ := tkl_row (q := q) (k := k) (t := t) hT.1 n hn
  obtain ⟨b1, b2, b3⟩ := kL_bd (off := off) hT ht n
  have eth : q_th (kL L off nt t) n = kth L off nt t n := rfl
  have eam : q_am (kL L off nt t) n = if kth L off nt t n = true then (tA L n (t - off n)).toInt else 0 := rfl
  by_cases hk : kth L off nt t n = true
  · obtain ⟨c1, c2, c3, c4⟩ := b1 hk
    have hc : ldH q k t n = true := by rw [hl n c1]; exact hk
    obtain ⟨g1, g2⟩ := r2 c1 hc
    rw [ho n c1, (e n hn _).1] at g1
    rw [ho n c1, (e n hn _).2] at g2
    refine ⟨?_, fun _ => ⟨by rw [g1]; exact c3, ?_⟩, ?_, by omega, b3⟩
    · rw [eth, hk]; unfold cTh; rw [r1, if_pos ⟨c1, hc⟩]; decide
    · unfold cY; rw [g1]; rfl
    · rw [eam, if_pos hk]; unfold cA; rw [g2]
  · have hk' : kth L off nt t n = false := by simpa using hk
    have hc : ¬ (n < nt ∧ ldH q k t n = true) := fun z => hk (by rw [← hl n z.1]; exact z.2)
    refine ⟨?_, fun z => absurd z hk, ?_, by omega, b3⟩
    · rw [eth, hk']; unfold cTh; rw [r1, if_neg hc]; decide
    · rw [eam, if_neg hk]; unfold cA; rw [r3 hc]; rfl
/-- cells that a tick changes -/
def f1 (p q : Nat → Nat → Int32) : Prop := ∀ a b, ¬ a = 37 → ¬ a = 40 → ¬ a = 41 → ¬ a = 42 → ¬ (a = 26 ∧ (b = 2 ∨ b = 3)) → p a b = q a b
def g1 (r s : Nat → Nat → Int64) : Prop := ∀ a b, ¬ a = 27 → ¬ a = 28 → ¬ a = 31 → ¬ a = 32 → ¬ a = 38 → ¬ a = 39 → ¬ a = 43 → ¬ a = 44 → ¬ a = 60 → r a b = s a b
theorem f1_rf {q : Nat → Nat → Int32} : f1 q q := fun _ _ _ _ _ _ _ => rfl
theorem g1_rf {q : Nat → Nat → Int64} : g1 q q := fun _ _ _ _ _ _ _ _ _ _ _ => rfl
theorem f1_tr {p q r : Nat → Nat → Int32} (h1 : f1 p q) (h2 : f1 q r) : f1 p r := fun a b x1 x2 x3 x4 x5 => by rw [h1 a b x1 x2 x3 x4 x5, h2 a b x1 x2 x3 x4 x5]
theorem g1_tr {p q r : Nat → Nat → Int64} (h1 : g1 p q) (h2 : g1 q r) : g1 p r := fun a b x1 x2 x3 x4 x5 x6 x7 x8 x9 => by rw [h1 a b x1 x2 x3 x4 x5 x6 x7 x8 x9, h2 a b x1 x2 x3 x4 x5 x6 x7 x8 x9]
theorem g1_shr {r : Nat → Nat → Int64} {k : Nat} {u d : Int64} (hk : k = 27 ∨ k = 28 ∨ k = 31 ∨ k = 32 ∨ k = 43 ∨ k = 44 ∨ k = 60) : g1 (shr r k u d) r := fun a b x1 x2 x3 x4 x5 x6 x7 x8 x9 => shr_ne (by rcases hk with h | h | h | h | h | h | h <;> (rw [h]; assumption))
theorem c_tick {p L : Nat → Nat → Int32} {r : Nat → Nat → Int64} {c : qC} {off : Nat → Nat} {k nt t : Nat} (hS : cS p c) (hR : cR p c) (hm : 0 < q_m c) (hT : LiT L nt) (ht : t < 24) (e : ∀ n, n < 5 → ∀ u, tP p n u = tP L n u ∧ tA p n u = tA L n u) (ho : ∀ n, n < nt → oF p k n = off n) : cE (stL (q_m c) 46 (tkl p k t nt) r).1 (stL (q_m c) 46 (tkl p k t nt) r).2 c (q_end c (kL L off nt t)) ∧ f1 (stL (q_m c) 46 (tkl p k t nt) r).1 p ∧ g1 (stL (q_m c) 46 (tkl p k t nt) r).2 r ∧ CB (tkl p k t nt) (q_m c) := by
  have hne : ∀ a b, ¬ a = 40 → ¬ a = 41 → ¬ a = 42 → tkl p k t nt a b = p a b := fun a b h1 h2 h3 => tkl_ne h1 h2 h3 nt
  obtain ⟨hl, _⟩ := c_load hT ht e ho
  have hS' : cS (tkl p k t nt) c := cS_of hS (fun a b h => hne a b (by omega) (by omega) (by omega))
  have hR' : cR (tkl p k t nt) c := cR_of hR (fun b => hne 2 b (by omega) (by omega) (by omega))
  have hp : pot (q_am (kL L off nt t)) 5 ≤ 9 * 5 := pot_le (fun n _ => (kL_bd (off := off) hT ht n).2.1)
  obtain ⟨s1, s2, s3⟩ := c_stl hm 46 (tkl p k t nt) r (kL L off nt t) hS' hR' hl (by omega)
  exact ⟨s1, fun a b x1 x2 x3 x4 x5 => by rw [s2 a b x1 x4, hne a b x2 x3 x4], fun a b x1 x2 x3 x4 x5 x6 x7 x8 x9 => s3 a b x5 x6 x7 x8, c_CB hS' hR' hl⟩
/-- the line of the class -/
def LI (q : Nat → Nat → Int32) (n nt : Nat) : Prop := (q 1 4 = nI n ∧ q 1 5 = nI nt) ∧ LiS (LN q) n ∧ LiR (LN q) ∧ LiT (LN q) nt ∧ ∀ k, k < 5 → q 5 k = nI (oF q 5 k) ∧ oF q 5 k ≤ 5
def kO (L : Nat → Nat → Int32) : Nat → Nat := oF L 5
theorem kO_LN {q : Nat → Nat → Int32} {k : Nat} : kO (LN q) k = oF q 5 k := by unfold kO oF; rw [LN_5]
/-- cells that the day changes -/
def f2 (p q : Nat → Nat → Int32) : Prop := ∀ a b, ¬ a = 33 → ¬ a = 34 → ¬ a = 35 → ¬ a = 36 → ¬ a = 37 → ¬ a = 40 → ¬ a = 41 → ¬ a = 42 → ¬ (a = 26 ∧ (b = 2 ∨ b = 3)) → p a b = q a b
theorem f2_rf {q : Nat → Nat → Int32} : f2 q q := fun _ _ _ _ _ _ _ _ _ _ _ => rfl
theorem f2_tr {p q r : Nat → Nat → Int32} (h1 : f2 p q) (h2 : f2 q r) : f2 p r := fun a b x1 x2 x3 x4 x5 x6 x7 x8 x9 => by rw [h1 a b x1 x2 x3 x4 x5 x6 x7 x8 x9, h2 a b x1 x2 x3 x4 x5 x6 x7 x8 x9]
theorem f2_f1 {p q : Nat → Nat → Int32} (h : f1 p q) : f2 p q := fun a b x1 x2 x3 x4 x5 x6 x7 x8 x9 => h a b x5 x6 x7 x8 x9
theorem f2_tks {q : Nat → Nat → Int32} {w : Int32} {n : Nat} : f2 (tks q w n) q := fun a b x1 x2 x3 x4 x5 x6 x7 x8 x9 => tks_ne x2 x3 x4 n
theorem LN_f2 {p q : Nat → Nat → Int32} (h : f2 p q) : LN p = LN q := LN_cg (fun a b h1 _ => h a b (by omega) (by omega) (by omega) (by omega) (by omega) (by omega) (by omega) (by omega) (by omega))
theorem LI_f2 {p q : Nat → Nat → Int32} {n nt : Nat} (h : f2 p q) (hl : LI q n nt) : LI p n nt := by
  have e : ∀ a b, 1 ≤ a ∧ a ≤ 25 → p a b = q a b := fun a b z => h a b (by omega) (by omega) (by omega) (by omega) (by omega) (by omega) (by omega) (by omega) (by omega)
  obtain ⟨⟨l1, l2⟩, l3, l4, l5, l6⟩ := hl
  refine ⟨⟨by rw [e 1 4 (by omega)]; exact l1, by rw [e 1 5 (by omega)]; exact l2⟩, by rw [LN_f2 h]; exact l3, by rw [LN_f2 h]; exact l4, by rw [LN_f2 h]; exact l5, fun k hk => ?_⟩
  unfold oF
  rw [e 5 k (by omega)]
  exact l6 k hk
theorem LI_S {q : Nat → Nat → Int32} {n nt : Nat} (hl : LI q n nt) (w : Int32) : cS (tks q w n) (kC (LN q) w n) ∧ cR (tks q w n) (kC (LN q) w n) := by
  obtain ⟨⟨l1, l2⟩, l3, l4, l5, l6⟩ := hl
  obtain ⟨e1, e2⟩ := tks_cg (p := q) (q := LN q) (w := w) (i := n) (fun s hs => ⟨(LN_sP (by have := l3.1; omega)).symm, (LN_sI (by have := l3.1; omega)).symm⟩)
  refine ⟨kC_cS l3 ?_ e2, kC_cR l4 (fun b => ?_)⟩
  · rw [tks_cnt, e1]
  · rw [tks_ne (by decide) (by decide) (by decide), LN_2]
theorem LI_e {p q : Nat → Nat → Int32} (h : f2 p q) : ∀ n, n < 5 → ∀ u, tP p n u = tP (LN q) n u ∧ tA p n u = tA (LN q) n u := fun n hn u => by
  rw [← LN_f2 h]
  exact ⟨(LN_tP hn).symm, (LN_tA hn).symm⟩
section Ds
variable {E : aE} {q : Nat → Nat → Int32} {ml : Nat → Nat → Int64}
/-- the class's solve of a tick -/
theorem y_solve {n nt t : Nat} (hl : LI q n nt) (ht : t < 24) (hm : 0 < q_m (kC (LN q) (-9) n)) : ∃ p r, ev E 38 (am_B 38 0) [.ref 26, .int (nI t)] [] (HH q ml) = some (none, HH p r) ∧ cE p r (kC (LN q) (-9) n) (q_end (kC (LN q) (-9) n) (kL (LN q) (kO (LN q)) nt t)) ∧ f2 p q ∧ g1 r ml := by
  obtain ⟨hS, hR⟩ := LI_S hl (-9)
  obtain ⟨⟨l1, l2⟩, l3, l4, l5, l6⟩ := id hl
  have e5 : tks q (-9) n 1 5 = nI nt := by rw [tks_ne (by decide) (by decide) (by decide), l2]
  have eo : ∀ k, tks q (-9) n 5 k = q 5 k := fun k => tks_ne (by decide) (by decide) (by decide) n
  have ho : ∀ k, k < nt → tks q (-9) n 5 k = nI (oF (tks q (-9) n) 5 k) ∧ oF (tks q (-9) n) 5 k ≤ 5 := fun k hk => by
    unfold oF
    rw [eo k]
    exact l6 k (by have := l5.1; omega)
  obtain ⟨k1, k2, k3, k4⟩ := c_tick (r := ml) (off := kO (LN q)) (k := 5) hS hR hm l5 ht (LI_e f2_tks) (fun k hk => by rw [kO_LN]; unfold oF; rw [eo k])
  refine ⟨_, _, ?_, k1, f2_tr (f2_f1 k2) f2_tks, k3⟩
  simp only [b_38_e, e_aloadr_0, k_m9, cc_Day_takeStations_0, cc_Day_takeStations_1, cc_Day_takeStations_2, cc_Day_takeStations_3, Option.toList_some, Option.toList_none, List.cons_append, List.nil_append, e_iload_1, g_73_26, g_131_1, cc_Day_takeLoads_0, cc_Day_takeLoads_1, cc_Day_takeLoads_2, cc_Day_takeLoads_3, e_pop, g_64_26, cc_Circuit_settle_0, cc_Circuit_settle_1, cc_Circuit_settle_2, cc_Circuit_settle_3, e_ret, eq_self, cc_Day_takeStations_0 l1 l3.1, cc_Day_takeLoads_0 (Or.inl rfl) ht e5 l5.1 ho, cc_Circuit_settle_0 k4, not_true_eq_false, not_false_eq_true, if_true, if_false, true_or, or_true, false_or, or_false, true_and, and_true, false_and, and_false, and_self, or_self, reduceIte, Bool.false_eq_true, i10, i01]
end Ds
