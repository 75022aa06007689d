theorem am_chkAll (M : Nat) : am_chkM M = true := by sorry
theorem am_chkB (M t : Nat) : am_chk M t (am_B M t) = true := by
  have h := am_chkAll M
  unfold am_chkM at h
  unfold am_B
  generalize (am_BL[M]?).getD [] = l at h ⊢
  induction l with
  | nil => rfl
  | cons q l ih =>
    rw [List.all_cons, Bool.and_eq_true] at h
    rw [show (q :: l) = ((q.1, q.2) :: l) from rfl, List.lookup_cons]
    by_cases e : t == q.1
    · rw [e]
      have e' : t = q.1 := by simpa using e
      subst e'
      exact h.1
    · simp only [Bool.not_eq_true] at e
      rw [e]
      exact ih h.2
