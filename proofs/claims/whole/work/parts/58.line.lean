/-! THE LINE WITHOUT CELLS: stations in the order of their places -/
/-- the line's cells alone, switches left out -/
def LN (mi : Nat → Nat → Int32) : Nat → Nat → Int32 := fun a b => if (1 ≤ a ∧ a ≤ 25) ∧ ¬ ((6 ≤ a ∧ a ≤ 10) ∧ b = 3) then mi a b else 0
theorem LN_cg {p q : Nat → Nat → Int32} (h : ∀ a b, 1 ≤ a ∧ a ≤ 25 → ¬ ((6 ≤ a ∧ a ≤ 10) ∧ b = 3) → p a b = q a b) : LN p = LN q := by
  funext a b
  unfold LN
  split
  · rename_i z; exact h a b z.1 z.2
  · rfl
theorem LN_at {mi : Nat → Nat → Int32} {a b : Nat} (h : 1 ≤ a ∧ a ≤ 25) (h2 : ¬ ((6 ≤ a ∧ a ≤ 10) ∧ b = 3)) : LN mi a b = mi a b := by unfold LN; rw [if_pos ⟨h, h2⟩]
theorem LN_sP {mi : Nat → Nat → Int32} {s : Nat} (h : s < 5) : sP (LN mi) s = sP mi s := LN_at (by omega) (by omega)
theorem LN_sI {mi : Nat → Nat → Int32} {s : Nat} (h : s < 5) : sI (LN mi) s = sI mi s := by unfold sI; rw [LN_at (by omega) (by omega)]
theorem LN_tP {mi : Nat → Nat → Int32} {k t : Nat} (h : k < 5) : tP (LN mi) k t = tP mi k t := LN_at (by omega) (by omega)
theorem LN_tA {mi : Nat → Nat → Int32} {k t : Nat} (h : k < 5) : tA (LN mi) k t = tA mi k t := LN_at (by omega) (by omega)
theorem LN_2 {mi : Nat → Nat → Int32} {b : Nat} : LN mi 2 b = mi 2 b := LN_at (by omega) (by omega)
theorem LN_1 {mi : Nat → Nat → Int32} {b : Nat} : LN mi 1 b = mi 1 b := LN_at (by omega) (by omega)
theorem LN_5 {mi : Nat → Nat → Int32} {b : Nat} : LN mi 5 b = mi 5 b := LN_at (by omega) (by omega)
theorem tkS_cg {p q : Nat → Nat → Int32} {w : Int32} {s : Nat} (h : sI p s = sI q s) : tkS p w s = tkS q w s := by unfold tkS; rw [h]
theorem cntB_cg {f g : Nat → Bool} : ∀ {n : Nat}, (∀ i, i < n → f i = g i) → cntB f n = cntB g n := by
  intro n
  induction n with
  | zero => intro _; rfl
  | succ n ih => intro h; rw [cntB, cntB, ih (fun i hi => h i (by omega)), h n (by omega)]
theorem ipos_cg {p q : Nat → Nat → Int32} {x : Int32} : ∀ {m : Nat}, (∀ j, j < m → p 36 j = q 36 j) → ipos p x m = ipos q x m := by
  intro m
  induction m with
  | zero => intro _; rfl
  | succ m ih => intro h; rw [ipos, ipos, ih (fun i hi => h i (by omega)), h m (by omega)]
theorem ads_36 {p : Nat → Nat → Int32} {m j : Nat} {s x : Int32} : ads p m s x 36 j = if j = ipos p x m then x else if ipos p x m < j ∧ j ≤ m then p 36 (j - 1) else p 36 j := by
  unfold ads
  rw [am_upa, if_neg (by omega), am_upa, if_neg (by omega), am_upa]
  by_cases h : j = ipos p x m
  · rw [if_pos ⟨rfl, h⟩, if_pos h]
  · rw [if_neg (fun z => h z.2), if_neg h]
    unfold shf
    by_cases h2 : ipos p x m < j ∧ j ≤ m
    · rw [if_pos ⟨Or.inl rfl, h2⟩, if_pos h2]
    · rw [if_neg (fun z => h2 z.2), if_neg h2]
theorem ads_35 {p : Nat → Nat → Int32} {m j : Nat} {s x : Int32} : ads p m s x 35 j = if j = ipos p x m then s else if ipos p x m < j ∧ j ≤ m then p 35 (j - 1) else p 35 j := by
  unfold ads
  rw [am_upa, if_neg (by omega), am_upa]
  by_cases h : j = ipos p x m
  · rw [if_pos ⟨rfl, h⟩, if_pos h]
  · rw [if_neg (fun z => h z.2), if_neg h, am_upa, if_neg (by omega)]
    unfold shf
    by_cases h2 : ipos p x m < j ∧ j ≤ m
    · rw [if_pos ⟨Or.inr rfl, h2⟩, if_pos h2]
    · rw [if_neg (fun z => h2 z.2), if_neg h2]
theorem ads_34 {p : Nat → Nat → Int32} {m : Nat} {s x : Int32} : ads p m s x 34 5 = nI (m + 1) := by unfold ads; rw [am_up_self]
theorem ads_cg {p q : Nat → Nat → Int32} {m : Nat} {s x : Int32} (h : ∀ j, j < m → p 35 j = q 35 j ∧ p 36 j = q 36 j) : ∀ j, j < m + 1 → ads p m s x 35 j = ads q m s x 35 j ∧ ads p m s x 36 j = ads q m s x 36 j := by
  intro j hj
  have hi : ipos p x m = ipos q x m := ipos_cg (fun j hj => (h j hj).2)
  have hle := ipos_le (mi := q) (x := x) (j := m)
  rw [ads_35, ads_35, ads_36, ads_36, hi]
  by_cases h1 : j = ipos q x m
  · simp [h1]
  · rw [if_neg h1, if_neg h1, if_neg h1, if_neg h1]
    by_cases h2 : ipos q x m < j ∧ j ≤ m
    · rw [if_pos h2, if_pos h2, if_pos h2, if_pos h2]
      exact h (j - 1) (by omega)
    · rw [if_neg h2, if_neg h2, if_neg h2, if_neg h2]
      exact h j (by omega)
theorem tks_cg {p q : Nat → Nat → Int32} {w : Int32} : ∀ {i : Nat}, (∀ s, s < i → sP p s = sP q s ∧ sI p s = sI q s) → cntB (tkS p w) i = cntB (tkS q w) i ∧ ∀ j, j < cntB (tkS q w) i → tks p w i 35 j = tks q w i 35 j ∧ tks p w i 36 j = tks q w i 36 j := by
  intro i
  induction i with
  | zero => intro _; exact ⟨rfl, fun j hj => absurd hj (Nat.not_lt_zero _)⟩
  | succ i ih =>
    intro h
    obtain ⟨e1, e2⟩ := ih (fun s hs => h s (by omega))
    have e3 : tkS p w i = tkS q w i := tkS_cg (h i (by omega)).2
    rw [cntB, cntB, tks, tks, e1, e3, (h i (by omega)).1]
    cases ht : tkS q w i with
    | true =>
      refine ⟨rfl, fun j hj => ?_⟩
      exact ads_cg e2 j hj
    | false => exact ⟨rfl, fun j hj => e2 j hj⟩
theorem ipos_sp {p : Nat → Nat → Int32} {x : Int32} : ∀ {m : Nat}, (∀ j, ipos p x m ≤ j → j < m → x < p 36 j) ∧ (0 < ipos p x m → p 36 (ipos p x m - 1) ≤ x) := by
  intro m
  induction m with
  | zero => exact ⟨fun j _ h => by omega, fun h => absurd h (Nat.not_lt_zero _)⟩
  | succ m ih =>
    rw [ipos]
    by_cases h : x < p 36 m
    · rw [if_pos h]
      refine ⟨fun j h1 h2 => ?_, ih.2⟩
      by_cases e : j = m
      · rw [e]; exact h
      · exact ih.1 j h1 (by omega)
    · rw [if_neg h]
      exact ⟨fun j h1 h2 => by omega, fun _ => by rw [Nat.add_sub_cancel]; exact Int32.not_lt.mp h⟩
/-- cells of stations in order: those s < N with A s, at pl s -/
def CG (p : Nat → Nat → Int32) (m : Nat) (A : Nat → Bool) (N : Nat) (pl : Nat → Int32) : Prop := p 34 5 = nI m ∧ (∀ j, j < m → ∃ s, s < N ∧ A s = true ∧ p 35 j = nI s ∧ p 36 j = pl s) ∧ (∀ s, s < N → A s = true → ∃ j, j < m ∧ p 35 j = nI s ∧ p 36 j = pl s) ∧ ∀ a b, a < b → b < m → (p 36 a).toInt < (p 36 b).toInt
theorem CG_ads {p : Nat → Nat → Int32} {m N : Nat} {A : Nat → Bool} {pl : Nat → Int32} (h : CG p m A N pl) (hA : A N = true) (hx : ∀ s, s < N → A s = true → ¬ pl s = pl N) : CG (ads p m (nI N) (pl N)) (m + 1) A (N + 1) pl := by
  obtain ⟨c1, c2, c3, c4⟩ := h
  have hle := ipos_le (mi := p) (x := pl N) (j := m)
  obtain ⟨i1, i2⟩ := ipos_sp (p := p) (x := pl N) (m := m)
  generalize hr : ipos p (pl N) m = r at hle i1 i2
  have a36 : ∀ j, ads p m (nI N) (pl N) 36 j = if j = r then pl N else if r < j ∧ j ≤ m then p 36 (j - 1) else p 36 j := fun j => by rw [ads_36, hr]
  have a35 : ∀ j, ads p m (nI N) (pl N) 35 j = if j = r then nI N else if r < j ∧ j ≤ m then p 35 (j - 1) else p 35 j := fun j => by rw [ads_35, hr]
  have low : ∀ j, j < r → (p 36 j).toInt < (pl N).toInt := fun j hj => by
    have h1 := i2 (by omega)
    rw [Int32.le_iff_toInt_le] at h1
    obtain ⟨s, s1, s2, s3, s4⟩ := c2 (r - 1) (by omega)
    have h2 : (p 36 (r - 1)).toInt ≠ (pl N).toInt := fun z => hx s s1 s2 (by rw [← s4]; exact Int32.toInt_inj.mp z)
    by_cases e : j = r - 1
    · rw [e]; omega
    · have := c4 j (r - 1) (by omega) (by omega); omega
  have hig : ∀ j, r ≤ j → j < m → (pl N).toInt < (p 36 j).toInt := fun j h1 h2 => by
    have := i1 j h1 h2
    rwa [Int32.lt_iff_toInt_lt] at this
  refine ⟨ads_34, fun j hj => ?_, fun s hs hAs => ?_, fun a b hab hb => ?_⟩
  · rw [a35, a36]
    by_cases e : j = r
    · rw [if_pos e, if_pos e]; exact ⟨N, by omega, hA, rfl, rfl⟩
    · rw [if_neg e, if_neg e]
      by_cases e2 : r < j ∧ j ≤ m
      · rw [if_pos e2, if_pos e2]
        obtain ⟨s, s1, s2⟩ := c2 (j - 1) (by omega)
        exact ⟨s, by omega, s2⟩
      · rw [if_neg e2, if_neg e2]
        obtain ⟨s, s1, s2⟩ := c2 j (by omega)
        exact ⟨s, by omega, s2⟩
  · by_cases e : s = N
    · subst e
      exact ⟨r, by omega, by rw [a35, if_pos rfl], by rw [a36, if_pos rfl]⟩
    · obtain ⟨j, j1, j2, j3⟩ := c3 s (by omega) hAs
      by_cases e2 : j < r
      · exact ⟨j, by omega, by rw [a35, if_neg (by omega), if_neg (by omega)]; exact j2, by rw [a36, if_neg (by omega), if_neg (by omega)]; exact j3⟩
      · exact ⟨j + 1, by omega, by rw [a35, if_neg (by omega), if_pos (by omega), Nat.add_sub_cancel]; exact j2, by rw [a36, if_neg (by omega), if_pos (by omega), Nat.add_sub_cancel]; exact j3⟩
  · rw [a36, a36]
    by_cases e1 : a = r
    · rw [if_pos e1, if_neg (by omega), if_pos (by omega)]
      exact hig (b - 1) (by omega) (by omega)
    · rw [if_neg e1]
      by_cases e2 : r < a ∧ a ≤ m
      · rw [if_pos e2, if_neg (by omega), if_pos (by omega)]
        exact c4 (a - 1) (b - 1) (by omega) (by omega)
      · rw [if_neg e2]
        by_cases e3 : b = r
        · rw [if_pos e3]; exact low a (by omega)
        · rw [if_neg e3]
          by_cases e4 : r < b ∧ b ≤ m
          · rw [if_pos e4]
            have h1 := low a (by omega)
            have h2 := hig (b - 1) (by omega) (by omega)
            omega
          · rw [if_neg e4]
            exact c4 a b hab (by omega)
theorem CG_tks {q : Nat → Nat → Int32} {w : Int32} : ∀ {i : Nat}, (∀ s t, s < t → t < i → ¬ sP q s = sP q t) → CG (tks q w i) (cntB (tkS q w) i) (tkS q w) i (sP q) := by
  intro i
  induction i with
  | zero => intro _; exact ⟨tks_cnt 0, fun j hj => absurd hj (Nat.not_lt_zero _), fun s hs => absurd hs (Nat.not_lt_zero _), fun a b _ hb => absurd hb (Nat.not_lt_zero _)⟩
  | succ i ih =>
    intro h
    have g := ih (fun s t h1 h2 => h s t h1 (by omega))
    rw [tks, cntB]
    cases ht : tkS q w i with
    | true =>
      rw [if_pos rfl, if_pos rfl]
      exact CG_ads g ht (fun s hs _ => h s i hs (by omega))
    | false =>
      obtain ⟨c1, c2, c3, c4⟩ := g
      refine ⟨c1, fun j hj => ?_, fun s hs hA => ?_, c4⟩
      · obtain ⟨s, s1, s2⟩ := c2 j hj
        exact ⟨s, by omega, s2⟩
      · by_cases e : s = i
        · rw [e, ht] at hA; cases hA
        · exact c3 s (by omega) hA
/-- the circuit's stations, out of the line L: all that are in but w -/
def kC (L : Nat → Nat → Int32) (w : Int32) (n : Nat) : qC := ((qI (L 2 2).toInt, qI (L 2 1).toInt, qI (L 2 3).toInt), cntB (tkS L w) n, fun j => qI (cP (tks L w n) j), fun j => (tks L w n 35 j).toNatClampNeg)
/-- what is right of a line: its stations -/
def LiS (L : Nat → Nat → Int32) (n : Nat) : Prop := n ≤ 5 ∧ (∀ s, s < n → bd (sP L s)) ∧ ∀ s t, s < t → t < n → ¬ sP L s = sP L t
def LiR (L : Nat → Nat → Int32) : Prop := (1 ≤ (L 2 0).toInt ∧ (L 2 0).toInt ≤ 200) ∧ (1 ≤ (L 2 1).toInt ∧ (L 2 1).toInt ≤ 20) ∧ (100 ≤ (L 2 2).toInt ∧ (L 2 2).toInt ≤ 2000) ∧ (100 ≤ (L 2 3).toInt ∧ (L 2 3).toInt ≤ 3000) ∧ (1 ≤ (L 2 4).toInt ∧ (L 2 4).toInt ≤ 2000) ∧ (L 2 2).toInt ≤ (L 2 3).toInt ∧ (L 2 4).toInt ≤ (L 2 2).toInt
theorem nI_cl9 {s : Nat} (h : s < 1000) : (nI s).toNatClampNeg = s := by
  show ((nI s).toInt).toNat = s
  rw [nI_toInt (by omega)]
  omega
theorem kC_cS {p L : Nat → Nat → Int32} {w : Int32} {n : Nat} (hL : LiS L n) (hp : p 34 5 = nI (cntB (tkS L w) n)) (h : ∀ j, j < cntB (tkS L w) n → p 35 j = tks L w n 35 j ∧ p 36 j = tks L w n 36 j) : cS p (kC L w n) := by
  obtain ⟨l1, l2, l3⟩ := hL
  obtain ⟨g1, g2, g3, g4⟩ := CG_tks (w := w) l3
  have hc := cntB_le (f := tkS L w) (n := n)
  refine ⟨hp, by show cntB (tkS L w) n ≤ 5; omega, fun j hj => ?_, fun i k hi hk => ?_⟩
  · have hj' : j < cntB (tkS L w) n := hj
    obtain ⟨s, s1, s2, s3, s4⟩ := g2 j hj'
    obtain ⟨e1, e2⟩ := h j hj'
    have e3 : q_nu (kC L w n) j = s := by show (tks L w n 35 j).toNatClampNeg = s; rw [s3, nI_cl9 (by omega)]
    refine ⟨by rw [e2, s4]; exact l2 s s1, ?_, by rw [e1, s3, e3], by rw [e3]; omega⟩
    show qI (cP p j) = qI (cP (tks L w n) j)
    unfold cP
    rw [e2]
  · show qI (cP (tks L w n) i) < qI (cP (tks L w n) k)
    exact qI_lt.mpr (g4 i k hi hk)
theorem kC_cR {p L : Nat → Nat → Int32} {w : Int32} {n : Nat} (hR : LiR L) (h : ∀ b, p 2 b = L 2 b) : cR p (kC L w n) := by
  obtain ⟨r0, r1, r2, r3, r4, r5, r6⟩ := hR
  unfold cR
  rw [h, h, h]
  exact ⟨⟨rfl, rfl, rfl⟩, by omega, by omega, by omega, by omega, by omega⟩
theorem kC_rR {p L : Nat → Nat → Int32} {w : Int32} {n : Nat} (hR : LiR L) (h : ∀ b, b < 5 → p 62 b = L 2 b) : rR p (kC L w n) := by
  obtain ⟨r0, r1, r2, r3, r4, r5, r6⟩ := hR
  unfold rR
  rw [h 2 (by decide), h 1 (by decide), h 3 (by decide)]
  exact ⟨⟨rfl, rfl, rfl⟩, by omega, by omega, by omega, by omega, by omega⟩
theorem inF_num {q : Nat → Nat → Int32} : ∀ {n : Nat}, n ≤ 5 → inF q n = nI (numB (fun s => decide (s < n) && decide (q 65 s = 0))) := by
  intro n
  induction n with
  | zero => intro _; rfl
  | succ n ih =>
    intro hn
    have e := ih (by omega)
    rw [inF, e]
    have hd : ∀ s, (decide (s < n + 1) && decide (q 65 s = 0)) = ((decide (s < n) && decide (q 65 s = 0)) || (decide (n = s) && decide (q 65 s = 0))) := fun s => by
      by_cases h1 : s < n
      · have : s < n + 1 := by omega
        have h2 : ¬ n = s := by omega
        simp [h1, this, h2]
      · by_cases h2 : n = s
        · subst h2; simp
        · have : ¬ s < n + 1 := by omega
          simp [h1, this, h2]
    by_cases h : q 65 n = 0
    · rw [if_pos h]
      refine Eq.trans (num5_or _ _ _ _ _ n (by omega)) ?_
      unfold numB
      have hd2 : ∀ s, ((decide (s < n) && decide (q 65 s = 0)) || decide (n = s)) = (decide (s < n + 1) && decide (q 65 s = 0)) := fun s => by
        rw [hd s]
        by_cases h2 : n = s
        · subst h2; simp [h]
        · simp [h2]
      rw [hd2, hd2, hd2, hd2, hd2]
    · rw [if_neg h]
      have hd2 : ∀ s, (decide (s < n) && decide (q 65 s = 0)) = (decide (s < n + 1) && decide (q 65 s = 0)) := fun s => by
        rw [hd s]
        by_cases h2 : n = s
        · subst h2; simp [h]
        · simp [h2]
      unfold numB
      simp only [hd2]
      simp
theorem kC_rS {q L : Nat → Nat → Int32} {w : Int32} {n : Nat} (hL : LiS L n) (h3 : q 61 3 = nI n) (h4 : ∀ s, s < n → q 64 s = sP L s) (h5 : ∀ s, s < n → (q 65 s = 0 ↔ tkS L w s = true)) : ∃ I, rS q n I (kC L w n) := by
  obtain ⟨l1, l2, l3⟩ := hL
  obtain ⟨g1, g2, g3, g4⟩ := CG_tks (w := w) l3
  have hc := cntB_le (f := tkS L w) (n := n)
  have hin := inF_num (q := q) l1
  obtain ⟨I, hI1, hI2⟩ := inF_pow (mi := q) n l1
  have hI32 : I < 32 := by
    have : 2 ^ n ≤ 2 ^ 5 := Nat.pow_le_pow_right (by omega) l1
    omega
  have hb : ∀ s, s < n → (bt (nI I) s = true ↔ tkS L w s = true) := fun s hs => by
    rw [← hI2, hin, numB_bt (by omega), ← h5 s hs]
    simp [hs]
  have nuj : ∀ j s, tks L w n 35 j = nI s → s < 5 → q_nu (kC L w n) j = s := fun j s h hs => by show (tks L w n 35 j).toNatClampNeg = s; rw [h, nI_cl9 (by omega)]
  refine ⟨I, h3, l1, fun s hs => by rw [h4 s hs]; exact l2 s hs, hI2, hI1, by show cntB (tkS L w) n ≤ 5; omega, fun j hj => ?_, fun s hs hbs => ?_, fun i k hi hk => ?_⟩
  · obtain ⟨s, s1, s2, s3, s4⟩ := g2 j hj
    rw [nuj j s s3 (by omega)]
    refine ⟨s1, ?_, (hb s s1).mpr s2⟩
    unfold mP
    rw [h4 s s1, ← s4]
    rfl
  · obtain ⟨j, j1, j2, j3⟩ := g3 s hs ((hb s hs).mp hbs)
    exact ⟨j, j1, nuj j s j2 (by omega)⟩
  · show qI (cP (tks L w n) i) < qI (cP (tks L w n) k)
    exact qI_lt.mpr (g4 i k hi hk)
