/-! THE FIRST STATE -/
theorem INV0 {q : Nat → Nat → Int32} {s : Nat → Nat → Int64} (h : ∀ k i, k < 78 → i < am_szk k → q k i = am_in0 k i) : INV q s 0 0 := by
  have z24 : ∀ k, k < 5 → am_szk (12 + 3 * k) = 24 := by decide +kernel
  have z6 : ∀ k, k < 5 → 4 ≤ am_szk (6 + k) := by decide +kernel
  have z5 : am_szk 5 = 5 := by decide +kernel
  have z70 : am_szk 70 = 4 := by decide +kernel
  have z72 : am_szk 72 = 240 := by decide +kernel
  have z52 : ∀ k, k < 4 → 2 ≤ am_szk (52 + 2 * k) := by decide +kernel
  have z53 : ∀ k, k < 4 → am_szk (53 + 2 * k) = 60 := by decide +kernel
  have z2 : am_szk 2 = 5 ∧ am_szk 62 = 5 := by decide +kernel
  have h5 : ∀ k, k < 5 → q 5 k = 0 := fun k hk => (h 5 k (by decide) (by omega)).trans rfl
  have hL : ∀ j, LN q 2 j = q 2 j := fun j => if_pos (by omega)
  have h2 : ∀ j, j < 5 → q 2 j = am_in0 2 j ∧ q 62 j = am_in0 2 j := fun j hj => ⟨h 2 j (by decide) (by omega), (h 62 j (by decide) (by omega)).trans rfl⟩
  have hT : ∀ k, k < 5 → ∀ t, t < 24 → tP q k t = -1 := fun k hk t ht => by
    refine (h (12 + 3 * k) t (by omega) (by rw [z24 k hk]; exact ht)).trans ?_
    rcases five hk with rfl | rfl | rfl | rfl | rfl <;> rfl
  have hS : ∀ k, k < 5 → q (6 + k) 2 = 1 ∧ q (6 + k) 3 = 3000 := fun k hk => by
    have := z6 k hk
    rw [h (6 + k) 2 (by omega) (by omega), h (6 + k) 3 (by omega) (by omega)]
    rcases five hk with rfl | rfl | rfl | rfl | rfl <;> exact ⟨rfl, rfl⟩
  have hs2 : ∀ k, k < 4 → q (52 + 2 * k) 1 = -1 := fun k hk => by
    have := z52 k hk
    rw [h (52 + 2 * k) 1 (by omega) (by omega)]
    rcases (show k = 0 ∨ k = 1 ∨ k = 2 ∨ k = 3 by omega) with rfl | rfl | rfl | rfl <;> rfl
  have hs3 : ∀ k, k < 4 → ∀ i, i < 60 → q (53 + 2 * k) i = 0 := fun k hk i hi => by
    rw [h (53 + 2 * k) i (by omega) (by rw [z53 k hk]; exact hi)]
    rcases (show k = 0 ∨ k = 1 ∨ k = 2 ∨ k = 3 by omega) with rfl | rfl | rfl | rfl <;> rfl
  have o0 : oF q 5 = oF q 5 := rfl
  refine ⟨⟨⟨⟨?_, ?_⟩, ⟨by decide, fun k hk => absurd hk (Nat.not_lt_zero _), fun k t _ hk => absurd hk (Nat.not_lt_zero _)⟩, ?_, ⟨by decide, fun k hk => absurd hk (Nat.not_lt_zero _)⟩, fun k hk => ?_⟩, fun k hk => ?_, fun k _ hk => hS k hk, fun k hk => absurd hk (Nat.not_lt_zero _), fun k hk => absurd hk (Nat.not_lt_zero _), fun k _ hk => ⟨hT k hk, h5 k hk⟩⟩, ⟨?_, fun b hb => ?_, fun k hk => absurd hk (Nat.not_lt_zero _), ?_, fun k hk => absurd hk (Nat.not_lt_zero _), fun k hk => absurd hk (Nat.not_lt_zero _), fun j hj => ?_⟩, fun k hk => ⟨Or.inl ⟨hs2 k hk, ?_⟩, fun i hi => ?_⟩, ⟨?_, ?_⟩, ⟨Or.inl ?_, fun z => ?_⟩, fun d hd2 => ⟨Or.inl ?_, fun z => ?_⟩⟩
  · exact (h 1 4 (by decide) (by decide +kernel)).trans rfl
  · exact (h 1 5 (by decide) (by decide +kernel)).trans rfl
  · unfold LiR
    rw [hL, hL, hL, hL, hL, (h2 0 (by decide)).1, (h2 1 (by decide)).1, (h2 2 (by decide)).1, (h2 3 (by decide)).1, (h2 4 (by decide)).1]
    decide +kernel
  · have : oF q 5 k = 0 := by unfold oF; rw [h5 k hk]; rfl
    rw [this]
    exact ⟨h5 k hk, by decide⟩
  · rw [(hS k hk).1, (hS k hk).2]
    decide +kernel
  · exact (h 61 3 (by decide) (by decide +kernel)).trans rfl
  · rw [(h2 b hb).1, (h2 b hb).2]
  · exact (h 61 8 (by decide) (by decide +kernel)).trans rfl
  · have : am_szk 67 = 120 := by decide +kernel
    rw [show q 67 j = 0 from (h 67 j (by decide) (by omega)).trans rfl]
    decide
  · exact (h 70 k (by decide) (by omega)).trans rfl
  · rw [hs3 k hk i hi]
    exact (h 72 _ (by decide) (by omega)).trans rfl
  · exact ((h 0 4 (by decide) (by decide +kernel)).trans rfl).trans (h 61 1 (by decide) (by decide +kernel)).symm
  · exact ((h 0 5 (by decide) (by decide +kernel)).trans rfl).trans (h 61 0 (by decide) (by decide +kernel)).symm
  · exact (h 26 8 (by decide) (by decide +kernel)).trans rfl
  · rw [show q 26 8 = 0 from (h 26 8 (by decide) (by decide +kernel)).trans rfl] at z
    exact absurd z (by decide)
  · rcases (show d = 0 ∨ d = 1 by omega) with rfl | rfl
    · exact (h 45 2 (by decide) (by decide +kernel)).trans rfl
    · exact (h 48 2 (by decide) (by decide +kernel)).trans rfl
  · exfalso
    rcases (show d = 0 ∨ d = 1 by omega) with rfl | rfl
    · rw [show q (45 + 3 * 0) 2 = 0 from (h 45 2 (by decide) (by decide +kernel)).trans rfl] at z
      exact absurd z (by decide)
    · rw [show q (45 + 3 * 1) 2 = 0 from (h 48 2 (by decide) (by decide +kernel)).trans rfl] at z
      exact absurd z (by decide)
theorem mi0_at {k i : Nat} (hk : k < 78) (hi : i < am_szk k) : am_hC.2.2.1 k i = am_in0 k i := by
  have a := List.all_eq_true.mp am_mi0_ok k (List.mem_range.mpr hk)
  have b := List.all_eq_true.mp a i (List.mem_range.mpr hi)
  exact of_decide_eq_true b
theorem INV_1 : INV am_hC.2.2.1 am_hC.2.2.2 0 0 := INV0 (fun _ _ hk hi => mi0_at hk hi)
theorem e_new {E : aE} {M : Nat} {c : List Instr} {L S : List Value} {h : aH} {x : Nat} : ev E M (.new x :: c) L S h = ev E M c L (.ref h.1.length :: S) (am_lay h (.inl x)) := ev_go rfl
theorem recv2 {H : aH} (hl : H.1.length = 61) : am_recv (am_lay H (.inl 9)) 112 [.ref 61] = true := by
  have e : (am_lay H (.inl 9)).1[61]? = some (.inl 9) := by
    show (H.1 ++ [Sum.inl 9])[61]? = _
    rw [← hl, List.getElem?_append_right (Nat.le_refl _), Nat.sub_self]
    rfl
  have e2 : am_own 112 = 9 := by decide +kernel
  simp only [am_recv, am_obj, e, e2]
  simp
theorem la_s2 {E : aE} {c : List Instr} {L : List Value} {H1 H2 : aH} (hl : H1.1.length = 61) (h2 : ev E 112 (am_B 112 0) (am_ent 112 [.ref 61]) [] (am_lay H1 (.inl 9)) = some (none, H2)) : ev E 186 (.new 9 :: .dup :: .invokevirtual 112 :: c) L [] H1 = ev E 186 c L [.ref 61] H2 := by
  rw [e_new, hl, e_dupr]
  exact e_inv (k := 112) (as := [.ref 61]) (S := [.ref 61]) rfl rfl (Nat.le_of_ble_eq_true rfl) (recv2 hl) h2
theorem la_s1 {E : aE} {c : List Instr} {L : List Value} {H2 : aH} (h2 : ev E 0 (am_B 0 0) (am_ent 0 [.ref 0]) [] (am_lay am_h0 (.inl 8)) = some (none, H2)) : ev E 186 (.new 8 :: .dup :: .invokevirtual 0 :: c) L [] am_h0 = ev E 186 c L [.ref 0] H2 := by
  rw [e_new, show am_h0.1.length = 0 from rfl, e_dupr]
  exact e_inv (k := 0) (as := [.ref 0]) (S := [.ref 0]) rfl rfl (Nat.le_of_ble_eq_true rfl) (by decide +kernel) h2
theorem la_begin (E : aE) : ev E 186 (am_B 186 0) [.retAddr 2, am_dm, am_dm, am_dm] [] am_h0 = ev E 186 (am_B 186 (Int.toNat 18)) [.retAddr 2, .ref 0, .ref 61, .int (nI 0)] [] (HH am_hC.2.2.1 am_hC.2.2.2) := by
  rw [b_186_e, la_s1 (am_ev1 E)]
  rw [e_astore_1, la_s2 am_i1_len (am_ev2 E)]
  rw [e_astore_2, k_0, e_istore_3, e_jsr]
  rfl
theorem la_run (L : Nat) (xs : Nat → Int32) (hL : L ≤ 3072) : ∃ n p r, am_run (am_E L xs) n 186 (am_B 186 0) (am_ent 186 [.retAddr 2]) [] am_h0 = some (some (.int 1), HH p r) := by
  obtain ⟨p, r, e⟩ := la_all (E := am_E L xs) rfl rfl hL (L + 6) 0 _ _ 0 0 (by show L + 6 ≤ 0 + (L + 6); omega) (by decide) INV_1
  rw [← la_begin] at e
  obtain ⟨n, hn⟩ := ev_iff.mp e
  exact ⟨n, p, r, hn⟩
theorem la_size {p : Nat → Nat → Int32} {r : Nat → Nat → Int64} : (HH p r).1.length ≤ 600000 ∧ am_sz (HH p r) ≤ 7302249 := by
  have e : am_sz (HH p r) = am_sz (am_LAY, fun _ _ => none, fun _ _ => 0, fun _ _ => 0) := rfl
  refine ⟨show am_LAY.length ≤ 600000 by decide +kernel, ?_⟩
  rw [e]
  decide +kernel
