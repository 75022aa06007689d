/-! THE TWO CONSTRUCTORS -/
def am_E0 : aE := fun _ => (0, fun _ => 0)
def am_stepN (M : Nat) (c0 : List Instr) (L S : List Value) (h : aH) : aO := match c0 with
  | .arraylength :: _ => none
  | .iaload :: _ => (match S with
    | .int _ :: .ref _ :: _ => am_step am_E0 M c0 L S h
    | _ => none)
  | _ => am_step am_E0 M c0 L S h
theorem am_stepN_step (E : aE) {M : Nat} {c0 : List Instr} {L S : List Value} {h : aH} {o : aS ⊕ (aR ⊕ (Nat × List Value × aS))} (hs : am_stepN M c0 L S h = some o) : am_step E M c0 L S h = some o := by
  unfold am_stepN at hs
  split at hs
  · cases hs
  · split at hs
    · exact hs
    · cases hs
  · rename_i h1 h2
    cases c0 with
    | nil => exact hs
    | cons i c =>
      cases i <;> first | exact hs | exact absurd rfl (h1 _) | exact absurd rfl (h2 _)
def am_runN : Nat → Nat → List Instr → List Value → List Value → aH → Option aR
  | 0, _, _, _, _, _ => none
  | n + 1, M, c, L, S, h => match am_stepN M c L S h with
    | none => none
    | some (.inl (c', L', S', h')) => am_runN n M c' L' S' h'
    | some (.inr (.inl r)) => some r
    | some (.inr (.inr (k, as, (c', L', S', h')))) => match am_runN n k (am_B k 0) (am_ent k as) [] h' with
      | none => none
      | some (v, h'') => am_runN n M c' L' (v.toList ++ S') h''
theorem am_runN_run (E : aE) : ∀ {n M : Nat} {c : List Instr} {L S : List Value} {h : aH} {r : aR}, am_runN n M c L S h = some r → am_run E n M c L S h = some r := by
  intro n
  induction n with
  | zero => intro M c L S h r hr; cases hr
  | succ n ih =>
    intro M c L S h r hr
    rw [am_runN] at hr
    split at hr
    · cases hr
    · rename_i hs
      rw [am_run, am_stepN_step E hs]
      exact ih hr
    · rename_i hs
      rw [am_run, am_stepN_step E hs]
      exact hr
    · rename_i hs
      split at hr
      · cases hr
      · rename_i hq
        rw [am_run, am_stepN_step E hs]
        dsimp only
        rw [ih hq]
        exact ih hr
def am_i1 : Option aR := am_runN 6000 0 (am_B 0 0) (am_ent 0 [.ref 0]) [] (am_lay am_h0 (.inl 8))
def am_hC1 : aH := (am_i1.getD (none, am_h0)).2
def am_i2 : Option aR := am_runN 6000 112 (am_B 112 0) (am_ent 112 [.ref 61]) [] (am_lay am_hC1 (.inl 9))
def am_hC : aH := (am_i2.getD (none, am_h0)).2
set_option maxRecDepth 100000 in
theorem am_i1_ok : am_i1.map (fun r => r.1) = some none := by decide +kernel
set_option maxRecDepth 100000 in
theorem am_i1_len : am_hC1.1.length = 61 := by decide +kernel
set_option maxRecDepth 100000 in
theorem am_i2_ok : am_i2.map (fun r => r.1) = some none := by decide +kernel
def am_LAY : List (Nat ⊕ (Nat × Nat)) := [.inl 8, .inl 2, .inr (0, 5), .inr (3, 5), .inr (4, 5), .inr (0, 5), .inl 6, .inl 6, .inl 6, .inl 6, .inl 6, .inl 7, .inr (0, 24), .inr (0, 24), .inl 7, .inr (0, 24), .inr (0, 24), .inl 7, .inr (0, 24), .inr (0, 24), .inl 7, .inr (0, 24), .inr (0, 24), .inl 7, .inr (0, 24), .inr (0, 24), .inl 1, .inl 4, .inl 4, .inr (5, 2), .inl 4, .inl 4, .inl 4, .inr (0, 5), .inl 0, .inr (0, 5), .inr (0, 5), .inr (1, 5), .inr (2, 5), .inr (2, 5), .inr (1, 5), .inr (0, 5), .inr (0, 5), .inl 4, .inl 4, .inl 3, .inl 4, .inr (0, 5), .inl 3, .inl 4, .inr (0, 5), .inr (6, 4), .inl 5, .inr (0, 60), .inl 5, .inr (0, 60), .inl 5, .inr (0, 60), .inl 5, .inr (0, 60), .inl 4, .inl 9, .inr (0, 5), .inr (0, 5), .inr (0, 6), .inr (1, 5), .inr (0, 5), .inr (0, 120), .inr (0, 120), .inr (0, 5), .inr (0, 4), .inr (0, 4), .inr (0, 240), .inr (0, 5), .inr (0, 5), .inr (0, 5), .inr (0, 5), .inr (0, 5)]
set_option maxRecDepth 100000 in
theorem am_LAY_ok : am_hC.1 = am_LAY := by decide +kernel
def am_rtab : List (Nat × Nat × Nat) := [(0, 0, 1), (0, 1, 26), (0, 2, 51), (0, 3, 60), (1, 0, 2), (1, 1, 3), (1, 2, 4), (1, 3, 5), (3, 0, 6), (3, 1, 7), (3, 2, 8), (3, 3, 9), (3, 4, 10), (4, 0, 11), (4, 1, 14), (4, 2, 17), (4, 3, 20), (4, 4, 23), (11, 0, 12), (11, 1, 13), (14, 0, 15), (14, 1, 16), (17, 0, 18), (17, 1, 19), (20, 0, 21), (20, 1, 22), (23, 0, 24), (23, 1, 25), (26, 0, 34), (26, 1, 27), (26, 4, 28), (26, 5, 29), (26, 6, 30), (26, 9, 1), (26, 10, 31), (26, 11, 32), (26, 12, 33), (29, 0, 45), (29, 1, 48), (34, 0, 35), (34, 1, 36), (34, 2, 37), (34, 3, 38), (34, 4, 39), (34, 6, 40), (34, 7, 41), (34, 8, 42), (34, 9, 2), (34, 10, 43), (34, 11, 44), (45, 0, 46), (45, 1, 47), (48, 0, 49), (48, 1, 50), (51, 0, 52), (51, 1, 54), (51, 2, 56), (51, 3, 58), (52, 0, 53), (54, 0, 55), (56, 0, 57), (58, 0, 59), (61, 2, 62), (61, 4, 63), (61, 5, 64), (61, 6, 65), (61, 7, 66), (61, 9, 67), (61, 10, 68), (61, 11, 69), (61, 12, 70), (61, 13, 71), (61, 14, 72), (61, 16, 73), (61, 17, 74), (61, 21, 75), (61, 29, 76), (61, 30, 77)]
set_option maxRecDepth 100000 in
theorem am_rtab_ok0 : am_rtab.all (fun q => decide (am_hC.2.1 q.1 q.2.1 = some q.2.2)) = true := by decide +kernel
theorem am_tab_of {f : Nat → Nat → Option Nat} {l : List (Nat × Nat × Nat)} (h : l.all (fun q => decide (f q.1 q.2.1 = some q.2.2)) = true) : ∀ k i j, (k, i, j) ∈ l → f k i = some j := by
  intro k i j hm
  have := List.all_eq_true.mp h _ hm
  simpa using this
theorem am_MRex : ∃ f : Nat → Nat → Option Nat, f = am_hC.2.1 ∧ ∀ k i j, (k, i, j) ∈ am_rtab → f k i = some j := ⟨_, rfl, am_tab_of am_rtab_ok0⟩
noncomputable def am_MR : Nat → Nat → Option Nat := Classical.choose am_MRex
theorem am_MR_eq : am_MR = am_hC.2.1 := (Classical.choose_spec am_MRex).1
theorem am_MRt {k i j : Nat} (h : (k, i, j) ∈ am_rtab) : am_MR k i = some j := (Classical.choose_spec am_MRex).2 k i j h
/-- what a new object holds: cell k, place i -/
def am_in0 (k i : Nat) : Int32 := if k = 2 ∨ k = 62 then (([100, 1, 750, 900, 500] : List Int32).getD i 0) else if 6 ≤ k ∧ k < 11 then (if i = 2 then 1 else if i = 3 then 3000 else 0) else if 11 ≤ k ∧ k < 26 ∧ k % 3 = 0 then -1 else if k = 26 then (if i = 7 then -9 else 0) else if 52 ≤ k ∧ k < 60 ∧ k % 2 = 0 then (if i = 1 then -1 else 0) else if k = 70 then -9 else 0
def am_szk (k : Nat) : Nat := match am_LAY[k]? with
  | some (.inl c) => am_N c
  | some (.inr (_, n)) => n
  | none => 0
set_option maxRecDepth 100000 in
theorem am_mi0_ok : (List.range 78).all (fun k => (List.range (am_szk k)).all (fun i => decide (am_hC.2.2.1 k i = am_in0 k i))) = true := by decide +kernel
set_option maxRecDepth 100000 in
theorem am_ml0_ok : ([27, 28, 30, 31, 32, 43, 44, 46, 49, 60] : List Nat).all (fun k => decide (am_hC.2.2.2 k 0 = 0) && decide (am_hC.2.2.2 k 1 = 1)) = true := by decide +kernel
/-- the heap of the two objects, with its numbers -/
noncomputable def HH (mi : Nat → Nat → Int32) (ml : Nat → Nat → Int64) : aH := (am_LAY, am_MR, mi, ml)
theorem am_hC_HH : am_hC = HH am_hC.2.2.1 am_hC.2.2.2 := by
  unfold HH
  rw [← am_LAY_ok, am_MR_eq]
theorem am_ev1 (E : aE) : ev E 0 (am_B 0 0) (am_ent 0 [.ref 0]) [] (am_lay am_h0 (.inl 8)) = some (none, am_hC1) := by
  have h := am_i1_ok
  cases h1 : am_i1 with
  | none => rw [h1] at h; cases h
  | some r =>
    obtain ⟨v, h2⟩ := r
    have e : am_hC1 = h2 := by unfold am_hC1; rw [h1]; rfl
    have ev0 : v = none := by rw [h1] at h; exact Option.some.inj h
    rw [e, ← ev0]
    exact ev_iff.mpr ⟨6000, am_runN_run E h1⟩
theorem am_ev2 (E : aE) : ev E 112 (am_B 112 0) (am_ent 112 [.ref 61]) [] (am_lay am_hC1 (.inl 9)) = some (none, HH am_hC.2.2.1 am_hC.2.2.2) := by
  rw [← am_hC_HH]
  have h := am_i2_ok
  cases h1 : am_i2 with
  | none => rw [h1] at h; cases h
  | some r =>
    obtain ⟨v, h2⟩ := r
    have e : am_hC = h2 := by unfold am_hC; rw [h1]; rfl
    have ev0 : v = none := by rw [h1] at h; exact Option.some.inj h
    rw [e, ← ev0]
    exact ev_iff.mpr ⟨6000, am_runN_run E h1⟩
