theorem am_all_split {α : Type} {l : List α} {p : α → Bool} (a n : Nat) (h1 : ((l.drop a).take n).all p = true) (h2 : (l.drop (a + n)).all p = true) : (l.drop a).all p = true := by
  rw [← List.take_append_drop n (l.drop a), List.all_append, h1, List.drop_drop, h2]
  rfl
theorem ck_law : am_chkM 186 = true := by
  show am_L186.all (fun q => am_chk 186 q.1 q.2) = true
  rw [← List.drop_zero (l := am_L186)]
  refine am_all_split 0 7 cl_0 ?_
  refine am_all_split 7 6 cl_7 ?_
  refine am_all_split 13 3 cl_13 ?_
  refine am_all_split 16 4 cl_16 ?_
  refine am_all_split 20 6 cl_20 ?_
  refine am_all_split 26 5 cl_26 ?_
  refine am_all_split 31 4 cl_31 ?_
  refine am_all_split 35 6 cl_35 ?_
  rfl
set_option maxRecDepth 20000 in
theorem am_BL_len : am_BL.length = 187 := by decide +kernel
theorem am_chkAll (M : Nat) : am_chkM M = true := by
  by_cases h0 : M < 20
  · have := ck_0 (M - 0) (by omega)
    rwa [show 0 + (M - 0) = M by omega] at this
  by_cases h1 : M < 43
  · have := ck_1 (M - 20) (by omega)
    rwa [show 20 + (M - 20) = M by omega] at this
  by_cases h2 : M < 56
  · have := ck_2 (M - 43) (by omega)
    rwa [show 43 + (M - 43) = M by omega] at this
  by_cases h3 : M < 76
  · have := ck_3 (M - 56) (by omega)
    rwa [show 56 + (M - 56) = M by omega] at this
  by_cases h4 : M < 94
  · have := ck_4 (M - 76) (by omega)
    rwa [show 76 + (M - 76) = M by omega] at this
  by_cases h5 : M < 119
  · have := ck_5 (M - 94) (by omega)
    rwa [show 94 + (M - 94) = M by omega] at this
  by_cases h6 : M < 140
  · have := ck_6 (M - 119) (by omega)
    rwa [show 119 + (M - 119) = M by omega] at this
  by_cases h7 : M < 150
  · have := ck_7 (M - 140) (by omega)
    rwa [show 140 + (M - 140) = M by omega] at this
  by_cases h8 : M < 167
  · have := ck_8 (M - 150) (by omega)
    rwa [show 150 + (M - 150) = M by omega] at this
  by_cases h9 : M < 178
  · have := ck_9 (M - 167) (by omega)
    rwa [show 167 + (M - 167) = M by omega] at this
  by_cases h10 : M < 186
  · have := ck_10 (M - 178) (by omega)
    rwa [show 178 + (M - 178) = M by omega] at this
  by_cases hl : M = 186
  · rw [hl]; exact ck_law
  · have h : am_BL[M]? = none := List.getElem?_eq_none (by rw [am_BL_len]; omega)
    simp [am_chkM, h]
theorem am_chkB (M t : Nat) : am_chk M t (am_B M t) = true := by
  have h := am_chkAll M
  unfold am_chkM at h
  unfold am_B
  generalize (am_BL[M]?).getD [] = l at h ⊢
  induction l with
  | nil => rfl
  | cons q l ih =>
    rw [List.all_cons, Bool.and_eq_true] at h
    rw [show (q :: l) = ((q.1, q.2) :: l) from rfl, List.lookup_cons]
    by_cases e : t == q.1
    · rw [e]
      have e' : t = q.1 := by simpa using e
      subst e'
      exact h.1
    · simp only [Bool.not_eq_true] at e
      rw [e]
      exact ih h.2
