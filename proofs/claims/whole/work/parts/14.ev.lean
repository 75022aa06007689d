/-! THE LIMIT OF THE RUNS: ev. Its equations are the rules of all later work. -/
theorem am_run_le {E : aE} : ∀ {n m M : Nat} {c : List Instr} {L S : List Value} {h : aH} {r : aR}, n ≤ m → am_run E n M c L S h = some r → am_run E m M c L S h = some r := by
  intro n
  induction n with
  | zero => intro m M c L S h r _ hr; cases hr
  | succ n ih =>
    intro m M c L S h r hm hr
    obtain ⟨m, rfl⟩ : ∃ k, m = k + 1 := ⟨m - 1, by omega⟩
    have hm : n ≤ m := by omega
    rcases am_run_succ hr with ⟨c', L', S', h1, hs, hr⟩ | hs | ⟨k, as, c', L', S', h1, v, h2, hs, hq, hr⟩
    · rw [am_run, hs]; exact ih hm hr
    · rw [am_run, hs]
    · rw [am_run, hs]
      show (match am_run E m k (am_B k 0) (am_ent k as) [] h1 with
        | none => none
        | some (v, h'') => am_run E m M c' L' (v.toList ++ S') h'') = some r
      rw [ih hm hq]
      exact ih hm hr
noncomputable def ev (E : aE) (M : Nat) (c : List Instr) (L S : List Value) (h : aH) : Option aR := @dite _ (∃ r n, am_run E n M c L S h = some r) (Classical.propDecidable _) (fun hx => some (Classical.choose hx)) (fun _ => none)
theorem ev_iff {E : aE} {M : Nat} {c : List Instr} {L S : List Value} {h : aH} {r : aR} : ev E M c L S h = some r ↔ ∃ n, am_run E n M c L S h = some r := by
  unfold ev
  constructor
  · intro hr
    split at hr
    · rename_i hx
      cases hr
      exact Classical.choose_spec hx
    · cases hr
  · rintro ⟨n, hn⟩
    have hx : ∃ r n, am_run E n M c L S h = some r := ⟨r, n, hn⟩
    rw [dif_pos hx]
    obtain ⟨n2, hn2⟩ := Classical.choose_spec hx
    have a := am_run_le (Nat.le_max_left n n2) hn
    have b := am_run_le (Nat.le_max_right n n2) hn2
    rw [a] at b
    exact b.symm
theorem ev_eq {E : aE} {M M' : Nat} {c c' : List Instr} {L S L' S' : List Value} {h h' : aH} (hh : ∀ r, ev E M c L S h = some r ↔ ev E M' c' L' S' h' = some r) : ev E M c L S h = ev E M' c' L' S' h' := by
  apply Option.ext
  intro r
  exact hh r
theorem ev_go {E : aE} {M : Nat} {c c' : List Instr} {L S L' S' : List Value} {h h1 : aH} (hs : am_step E M c L S h = some (.inl (c', L', S', h1))) : ev E M c L S h = ev E M c' L' S' h1 := by
  apply ev_eq
  intro r
  rw [ev_iff, ev_iff]
  constructor
  · rintro ⟨n, hn⟩
    match n, hn with
    | n + 1, hn =>
      rw [am_run, hs] at hn
      exact ⟨n, hn⟩
  · rintro ⟨n, hn⟩
    exact ⟨n + 1, by rw [am_run, hs]; exact hn⟩
theorem ev_ret {E : aE} {M : Nat} {c : List Instr} {L S : List Value} {h : aH} {r : aR} (hs : am_step E M c L S h = some (.inr (.inl r))) : ev E M c L S h = some r := ev_iff.mpr ⟨1, by rw [am_run, hs]⟩
theorem ev_call {E : aE} {M k : Nat} {c c' : List Instr} {L S L' S' as : List Value} {h h1 h2 : aH} {v : Option Value} (hs : am_step E M c L S h = some (.inr (.inr (k, as, (c', L', S', h1))))) (hq : ev E k (am_B k 0) (am_ent k as) [] h1 = some (v, h2)) : ev E M c L S h = ev E M c' L' (v.toList ++ S') h2 := by
  obtain ⟨n1, hn1⟩ := ev_iff.mp hq
  apply ev_eq
  intro r
  rw [ev_iff, ev_iff]
  constructor
  · rintro ⟨n, hn⟩
    match n, hn with
    | n + 1, hn =>
      rcases am_run_succ hn with ⟨c', L', S', h1, hs', hr⟩ | hs' | ⟨k, as, c', L', S', h1, v, h2, hs', hq', hr⟩
      · rw [hs] at hs'; cases hs'
      · rw [hs] at hs'; cases hs'
      · rw [hs] at hs'
        cases hs'
        have a := am_run_le (Nat.le_max_left n n1) hq'
        have b := am_run_le (Nat.le_max_right n n1) hn1
        rw [a] at b
        cases b
        exact ⟨n, hr⟩
  · rintro ⟨n, hn⟩
    refine ⟨max n n1 + 1, ?_⟩
    rw [am_run, hs]
    show (match am_run E (max n n1) k (am_B k 0) (am_ent k as) [] h1 with
        | none => none
        | some (v, h'') => am_run E (max n n1) M c' L' (v.toList ++ S') h'') = some r
    rw [am_run_le (Nat.le_max_right n n1) hn1]
    exact am_run_le (Nat.le_max_left n n1) hn
section Ev
variable {E : aE} {M : Nat} {c : List Instr} {L S : List Value} {h : aH}
theorem e_iload_0 {x : Int32} : ev E M (.iload 0 :: c) (.int x :: L) S h = ev E M c (.int x :: L) (.int x :: S) h := ev_go rfl
theorem e_lload_0 {x : Int64} : ev E M (.lload 0 :: c) (.long x :: L) S h = ev E M c (.long x :: L) (.long x :: S) h := ev_go rfl
theorem e_aloadr_0 {x : Nat} : ev E M (.aload 0 :: c) (.ref x :: L) S h = ev E M c (.ref x :: L) (.ref x :: S) h := ev_go rfl
theorem e_aloadx_0 {x : Nat} : ev E M (.aload 0 :: c) (.retAddr x :: L) S h = ev E M c (.retAddr x :: L) (.retAddr x :: S) h := ev_go rfl
theorem e_istore_0 {b : Value} {x : Int32} : ev E M (.istore 0 :: c) (b :: L) (.int x :: S) h = ev E M c (.int x :: L) S h := ev_go (by simp only [am_step, List.length_cons]; rw [if_pos (by omega)]; rfl)
theorem e_astore_0 {b : Value} {x : Nat} : ev E M (.astore 0 :: c) (b :: L) (.ref x :: S) h = ev E M c (.ref x :: L) S h := ev_go (by simp only [am_step, List.length_cons]; rw [if_pos (by omega)]; rfl)
theorem e_lstore_0 {b b2 : Value} {x : Int64} : ev E M (.lstore 0 :: c) (b :: b2 :: L) (.long x :: S) h = ev E M c (.long x :: am_dm :: L) S h := ev_go (by simp only [am_step, List.length_cons]; rw [if_pos (by omega)]; rfl)
theorem e_iinc_0 {x : Int32} {v : Int} : ev E M (.iinc 0 v :: c) (.int x :: L) S h = ev E M c (.int (x + Int32.ofInt v) :: L) S h := ev_go rfl
theorem e_iload_1 {a0 : Value} {x : Int32} : ev E M (.iload 1 :: c) (a0 :: .int x :: L) S h = ev E M c (a0 :: .int x :: L) (.int x :: S) h := ev_go rfl
theorem e_lload_1 {a0 : Value} {x : Int64} : ev E M (.lload 1 :: c) (a0 :: .long x :: L) S h = ev E M c (a0 :: .long x :: L) (.long x :: S) h := ev_go rfl
theorem e_aloadr_1 {a0 : Value} {x : Nat} : ev E M (.aload 1 :: c) (a0 :: .ref x :: L) S h = ev E M c (a0 :: .ref x :: L) (.ref x :: S) h := ev_go rfl
theorem e_aloadx_1 {a0 : Value} {x : Nat} : ev E M (.aload 1 :: c) (a0 :: .retAddr x :: L) S h = ev E M c (a0 :: .retAddr x :: L) (.retAddr x :: S) h := ev_go rfl
theorem e_istore_1 {a0 : Value} {b : Value} {x : Int32} : ev E M (.istore 1 :: c) (a0 :: b :: L) (.int x :: S) h = ev E M c (am_kp a0 :: .int x :: L) S h := ev_go (by simp only [am_step, List.length_cons]; rw [if_pos (by omega)]; rfl)
theorem e_astore_1 {a0 : Value} {b : Value} {x : Nat} : ev E M (.astore 1 :: c) (a0 :: b :: L) (.ref x :: S) h = ev E M c (am_kp a0 :: .ref x :: L) S h := ev_go (by simp only [am_step, List.length_cons]; rw [if_pos (by omega)]; rfl)
theorem e_lstore_1 {a0 : Value} {b b2 : Value} {x : Int64} : ev E M (.lstore 1 :: c) (a0 :: b :: b2 :: L) (.long x :: S) h = ev E M c (am_kp a0 :: .long x :: am_dm :: L) S h := ev_go (by simp only [am_step, List.length_cons]; rw [if_pos (by omega)]; rfl)
theorem e_iinc_1 {a0 : Value} {x : Int32} {v : Int} : ev E M (.iinc 1 v :: c) (a0 :: .int x :: L) S h = ev E M c (am_kp a0 :: .int (x + Int32.ofInt v) :: L) S h := ev_go rfl
theorem e_iload_2 {a0 a1 : Value} {x : Int32} : ev E M (.iload 2 :: c) (a0 :: a1 :: .int x :: L) S h = ev E M c (a0 :: a1 :: .int x :: L) (.int x :: S) h := ev_go rfl
theorem e_lload_2 {a0 a1 : Value} {x : Int64} : ev E M (.lload 2 :: c) (a0 :: a1 :: .long x :: L) S h = ev E M c (a0 :: a1 :: .long x :: L) (.long x :: S) h := ev_go rfl
theorem e_aloadr_2 {a0 a1 : Value} {x : Nat} : ev E M (.aload 2 :: c) (a0 :: a1 :: .ref x :: L) S h = ev E M c (a0 :: a1 :: .ref x :: L) (.ref x :: S) h := ev_go rfl
theorem e_aloadx_2 {a0 a1 : Value} {x : Nat} : ev E M (.aload 2 :: c) (a0 :: a1 :: .retAddr x :: L) S h = ev E M c (a0 :: a1 :: .retAddr x :: L) (.retAddr x :: S) h := ev_go rfl
theorem e_istore_2 {a0 a1 : Value} {b : Value} {x : Int32} : ev E M (.istore 2 :: c) (a0 :: a1 :: b :: L) (.int x :: S) h = ev E M c (a0 :: am_kp a1 :: .int x :: L) S h := ev_go (by simp only [am_step, List.length_cons]; rw [if_pos (by omega)]; rfl)
theorem e_astore_2 {a0 a1 : Value} {b : Value} {x : Nat} : ev E M (.astore 2 :: c) (a0 :: a1 :: b :: L) (.ref x :: S) h = ev E M c (a0 :: am_kp a1 :: .ref x :: L) S h := ev_go (by simp only [am_step, List.length_cons]; rw [if_pos (by omega)]; rfl)
theorem e_lstore_2 {a0 a1 : Value} {b b2 : Value} {x : Int64} : ev E M (.lstore 2 :: c) (a0 :: a1 :: b :: b2 :: L) (.long x :: S) h = ev E M c (a0 :: am_kp a1 :: .long x :: am_dm :: L) S h := ev_go (by simp only [am_step, List.length_cons]; rw [if_pos (by omega)]; rfl)
theorem e_iinc_2 {a0 a1 : Value} {x : Int32} {v : Int} : ev E M (.iinc 2 v :: c) (a0 :: a1 :: .int x :: L) S h = ev E M c (a0 :: am_kp a1 :: .int (x + Int32.ofInt v) :: L) S h := ev_go rfl
theorem e_iload_3 {a0 a1 a2 : Value} {x : Int32} : ev E M (.iload 3 :: c) (a0 :: a1 :: a2 :: .int x :: L) S h = ev E M c (a0 :: a1 :: a2 :: .int x :: L) (.int x :: S) h := ev_go rfl
theorem e_lload_3 {a0 a1 a2 : Value} {x : Int64} : ev E M (.lload 3 :: c) (a0 :: a1 :: a2 :: .long x :: L) S h = ev E M c (a0 :: a1 :: a2 :: .long x :: L) (.long x :: S) h := ev_go rfl
theorem e_aloadr_3 {a0 a1 a2 : Value} {x : Nat} : ev E M (.aload 3 :: c) (a0 :: a1 :: a2 :: .ref x :: L) S h = ev E M c (a0 :: a1 :: a2 :: .ref x :: L) (.ref x :: S) h := ev_go rfl
theorem e_aloadx_3 {a0 a1 a2 : Value} {x : Nat} : ev E M (.aload 3 :: c) (a0 :: a1 :: a2 :: .retAddr x :: L) S h = ev E M c (a0 :: a1 :: a2 :: .retAddr x :: L) (.retAddr x :: S) h := ev_go rfl
theorem e_istore_3 {a0 a1 a2 : Value} {b : Value} {x : Int32} : ev E M (.istore 3 :: c) (a0 :: a1 :: a2 :: b :: L) (.int x :: S) h = ev E M c (a0 :: a1 :: am_kp a2 :: .int x :: L) S h := ev_go (by simp only [am_step, List.length_cons]; rw [if_pos (by omega)]; rfl)
theorem e_astore_3 {a0 a1 a2 : Value} {b : Value} {x : Nat} : ev E M (.astore 3 :: c) (a0 :: a1 :: a2 :: b :: L) (.ref x :: S) h = ev E M c (a0 :: a1 :: am_kp a2 :: .ref x :: L) S h := ev_go (by simp only [am_step, List.length_cons]; rw [if_pos (by omega)]; rfl)
theorem e_lstore_3 {a0 a1 a2 : Value} {b b2 : Value} {x : Int64} : ev E M (.lstore 3 :: c) (a0 :: a1 :: a2 :: b :: b2 :: L) (.long x :: S) h = ev E M c (a0 :: a1 :: am_kp a2 :: .long x :: am_dm :: L) S h := ev_go (by simp only [am_step, List.length_cons]; rw [if_pos (by omega)]; rfl)
theorem e_iinc_3 {a0 a1 a2 : Value} {x : Int32} {v : Int} : ev E M (.iinc 3 v :: c) (a0 :: a1 :: a2 :: .int x :: L) S h = ev E M c (a0 :: a1 :: am_kp a2 :: .int (x + Int32.ofInt v) :: L) S h := ev_go rfl
theorem e_iload_4 {a0 a1 a2 a3 : Value} {x : Int32} : ev E M (.iload 4 :: c) (a0 :: a1 :: a2 :: a3 :: .int x :: L) S h = ev E M c (a0 :: a1 :: a2 :: a3 :: .int x :: L) (.int x :: S) h := ev_go rfl
theorem e_lload_4 {a0 a1 a2 a3 : Value} {x : Int64} : ev E M (.lload 4 :: c) (a0 :: a1 :: a2 :: a3 :: .long x :: L) S h = ev E M c (a0 :: a1 :: a2 :: a3 :: .long x :: L) (.long x :: S) h := ev_go rfl
theorem e_aloadr_4 {a0 a1 a2 a3 : Value} {x : Nat} : ev E M (.aload 4 :: c) (a0 :: a1 :: a2 :: a3 :: .ref x :: L) S h = ev E M c (a0 :: a1 :: a2 :: a3 :: .ref x :: L) (.ref x :: S) h := ev_go rfl
theorem e_aloadx_4 {a0 a1 a2 a3 : Value} {x : Nat} : ev E M (.aload 4 :: c) (a0 :: a1 :: a2 :: a3 :: .retAddr x :: L) S h = ev E M c (a0 :: a1 :: a2 :: a3 :: .retAddr x :: L) (.retAddr x :: S) h := ev_go rfl
theorem e_istore_4 {a0 a1 a2 a3 : Value} {b : Value} {x : Int32} : ev E M (.istore 4 :: c) (a0 :: a1 :: a2 :: a3 :: b :: L) (.int x :: S) h = ev E M c (a0 :: a1 :: a2 :: am_kp a3 :: .int x :: L) S h := ev_go (by simp only [am_step, List.length_cons]; rw [if_pos (by omega)]; rfl)
theorem e_astore_4 {a0 a1 a2 a3 : Value} {b : Value} {x : Nat} : ev E M (.astore 4 :: c) (a0 :: a1 :: a2 :: a3 :: b :: L) (.ref x :: S) h = ev E M c (a0 :: a1 :: a2 :: am_kp a3 :: .ref x :: L) S h := ev_go (by simp only [am_step, List.length_cons]; rw [if_pos (by omega)]; rfl)
theorem e_lstore_4 {a0 a1 a2 a3 : Value} {b b2 : Value} {x : Int64} : ev E M (.lstore 4 :: c) (a0 :: a1 :: a2 :: a3 :: b :: b2 :: L) (.long x :: S) h = ev E M c (a0 :: a1 :: a2 :: am_kp a3 :: .long x :: am_dm :: L) S h := ev_go (by simp only [am_step, List.length_cons]; rw [if_pos (by omega)]; rfl)
theorem e_iinc_4 {a0 a1 a2 a3 : Value} {x : Int32} {v : Int} : ev E M (.iinc 4 v :: c) (a0 :: a1 :: a2 :: a3 :: .int x :: L) S h = ev E M c (a0 :: a1 :: a2 :: am_kp a3 :: .int (x + Int32.ofInt v) :: L) S h := ev_go rfl
theorem e_iload_5 {a0 a1 a2 a3 a4 : Value} {x : Int32} : ev E M (.iload 5 :: c) (a0 :: a1 :: a2 :: a3 :: a4 :: .int x :: L) S h = ev E M c (a0 :: a1 :: a2 :: a3 :: a4 :: .int x :: L) (.int x :: S) h := ev_go rfl
theorem e_lload_5 {a0 a1 a2 a3 a4 : Value} {x : Int64} : ev E M (.lload 5 :: c) (a0 :: a1 :: a2 :: a3 :: a4 :: .long x :: L) S h = ev E M c (a0 :: a1 :: a2 :: a3 :: a4 :: .long x :: L) (.long x :: S) h := ev_go rfl
theorem e_aloadr_5 {a0 a1 a2 a3 a4 : Value} {x : Nat} : ev E M (.aload 5 :: c) (a0 :: a1 :: a2 :: a3 :: a4 :: .ref x :: L) S h = ev E M c (a0 :: a1 :: a2 :: a3 :: a4 :: .ref x :: L) (.ref x :: S) h := ev_go rfl
theorem e_aloadx_5 {a0 a1 a2 a3 a4 : Value} {x : Nat} : ev E M (.aload 5 :: c) (a0 :: a1 :: a2 :: a3 :: a4 :: .retAddr x :: L) S h = ev E M c (a0 :: a1 :: a2 :: a3 :: a4 :: .retAddr x :: L) (.retAddr x :: S) h := ev_go rfl
theorem e_istore_5 {a0 a1 a2 a3 a4 : Value} {b : Value} {x : Int32} : ev E M (.istore 5 :: c) (a0 :: a1 :: a2 :: a3 :: a4 :: b :: L) (.int x :: S) h = ev E M c (a0 :: a1 :: a2 :: a3 :: am_kp a4 :: .int x :: L) S h := ev_go (by simp only [am_step, List.length_cons]; rw [if_pos (by omega)]; rfl)
theorem e_astore_5 {a0 a1 a2 a3 a4 : Value} {b : Value} {x : Nat} : ev E M (.astore 5 :: c) (a0 :: a1 :: a2 :: a3 :: a4 :: b :: L) (.ref x :: S) h = ev E M c (a0 :: a1 :: a2 :: a3 :: am_kp a4 :: .ref x :: L) S h := ev_go (by simp only [am_step, List.length_cons]; rw [if_pos (by omega)]; rfl)
theorem e_lstore_5 {a0 a1 a2 a3 a4 : Value} {b b2 : Value} {x : Int64} : ev E M (.lstore 5 :: c) (a0 :: a1 :: a2 :: a3 :: a4 :: b :: b2 :: L) (.long x :: S) h = ev E M c (a0 :: a1 :: a2 :: a3 :: am_kp a4 :: .long x :: am_dm :: L) S h := ev_go (by simp only [am_step, List.length_cons]; rw [if_pos (by omega)]; rfl)
theorem e_iinc_5 {a0 a1 a2 a3 a4 : Value} {x : Int32} {v : Int} : ev E M (.iinc 5 v :: c) (a0 :: a1 :: a2 :: a3 :: a4 :: .int x :: L) S h = ev E M c (a0 :: a1 :: a2 :: a3 :: am_kp a4 :: .int (x + Int32.ofInt v) :: L) S h := ev_go rfl
theorem e_iload_6 {a0 a1 a2 a3 a4 a5 : Value} {x : Int32} : ev E M (.iload 6 :: c) (a0 :: a1 :: a2 :: a3 :: a4 :: a5 :: .int x :: L) S h = ev E M c (a0 :: a1 :: a2 :: a3 :: a4 :: a5 :: .int x :: L) (.int x :: S) h := ev_go rfl
theorem e_lload_6 {a0 a1 a2 a3 a4 a5 : Value} {x : Int64} : ev E M (.lload 6 :: c) (a0 :: a1 :: a2 :: a3 :: a4 :: a5 :: .long x :: L) S h = ev E M c (a0 :: a1 :: a2 :: a3 :: a4 :: a5 :: .long x :: L) (.long x :: S) h := ev_go rfl
theorem e_aloadr_6 {a0 a1 a2 a3 a4 a5 : Value} {x : Nat} : ev E M (.aload 6 :: c) (a0 :: a1 :: a2 :: a3 :: a4 :: a5 :: .ref x :: L) S h = ev E M c (a0 :: a1 :: a2 :: a3 :: a4 :: a5 :: .ref x :: L) (.ref x :: S) h := ev_go rfl
theorem e_aloadx_6 {a0 a1 a2 a3 a4 a5 : Value} {x : Nat} : ev E M (.aload 6 :: c) (a0 :: a1 :: a2 :: a3 :: a4 :: a5 :: .retAddr x :: L) S h = ev E M c (a0 :: a1 :: a2 :: a3 :: a4 :: a5 :: .retAddr x :: L) (.retAddr x :: S) h := ev_go rfl
theorem e_istore_6 {a0 a1 a2 a3 a4 a5 : Value} {b : Value} {x : Int32} : ev E M (.istore 6 :: c) (a0 :: a1 :: a2 :: a3 :: a4 :: a5 :: b :: L) (.int x :: S) h = ev E M c (a0 :: a1 :: a2 :: a3 :: a4 :: am_kp a5 :: .int x :: L) S h := ev_go (by simp only [am_step, List.length_cons]; rw [if_pos (by omega)]; rfl)
theorem e_astore_6 {a0 a1 a2 a3 a4 a5 : Value} {b : Value} {x : Nat} : ev E M (.astore 6 :: c) (a0 :: a1 :: a2 :: a3 :: a4 :: a5 :: b :: L) (.ref x :: S) h = ev E M c (a0 :: a1 :: a2 :: a3 :: a4 :: am_kp a5 :: .ref x :: L) S h := ev_go (by simp only [am_step, List.length_cons]; rw [if_pos (by omega)]; rfl)
theorem e_lstore_6 {a0 a1 a2 a3 a4 a5 : Value} {b b2 : Value} {x : Int64} : ev E M (.lstore 6 :: c) (a0 :: a1 :: a2 :: a3 :: a4 :: a5 :: b :: b2 :: L) (.long x :: S) h = ev E M c (a0 :: a1 :: a2 :: a3 :: a4 :: am_kp a5 :: .long x :: am_dm :: L) S h := ev_go (by simp only [am_step, List.length_cons]; rw [if_pos (by omega)]; rfl)
theorem e_iinc_6 {a0 a1 a2 a3 a4 a5 : Value} {x : Int32} {v : Int} : ev E M (.iinc 6 v :: c) (a0 :: a1 :: a2 :: a3 :: a4 :: a5 :: .int x :: L) S h = ev E M c (a0 :: a1 :: a2 :: a3 :: a4 :: am_kp a5 :: .int (x + Int32.ofInt v) :: L) S h := ev_go rfl
theorem e_iload_7 {a0 a1 a2 a3 a4 a5 a6 : Value} {x : Int32} : ev E M (.iload 7 :: c) (a0 :: a1 :: a2 :: a3 :: a4 :: a5 :: a6 :: .int x :: L) S h = ev E M c (a0 :: a1 :: a2 :: a3 :: a4 :: a5 :: a6 :: .int x :: L) (.int x :: S) h := ev_go rfl
theorem e_lload_7 {a0 a1 a2 a3 a4 a5 a6 : Value} {x : Int64} : ev E M (.lload 7 :: c) (a0 :: a1 :: a2 :: a3 :: a4 :: a5 :: a6 :: .long x :: L) S h = ev E M c (a0 :: a1 :: a2 :: a3 :: a4 :: a5 :: a6 :: .long x :: L) (.long x :: S) h := ev_go rfl
theorem e_aloadr_7 {a0 a1 a2 a3 a4 a5 a6 : Value} {x : Nat} : ev E M (.aload 7 :: c) (a0 :: a1 :: a2 :: a3 :: a4 :: a5 :: a6 :: .ref x :: L) S h = ev E M c (a0 :: a1 :: a2 :: a3 :: a4 :: a5 :: a6 :: .ref x :: L) (.ref x :: S) h := ev_go rfl
theorem e_aloadx_7 {a0 a1 a2 a3 a4 a5 a6 : Value} {x : Nat} : ev E M (.aload 7 :: c) (a0 :: a1 :: a2 :: a3 :: a4 :: a5 :: a6 :: .retAddr x :: L) S h = ev E M c (a0 :: a1 :: a2 :: a3 :: a4 :: a5 :: a6 :: .retAddr x :: L) (.retAddr x :: S) h := ev_go rfl
theorem e_istore_7 {a0 a1 a2 a3 a4 a5 a6 : Value} {b : Value} {x : Int32} : ev E M (.istore 7 :: c) (a0 :: a1 :: a2 :: a3 :: a4 :: a5 :: a6 :: b :: L) (.int x :: S) h = ev E M c (a0 :: a1 :: a2 :: a3 :: a4 :: a5 :: am_kp a6 :: .int x :: L) S h := ev_go (by simp only [am_step, List.length_cons]; rw [if_pos (by omega)]; rfl)
theorem e_astore_7 {a0 a1 a2 a3 a4 a5 a6 : Value} {b : Value} {x : Nat} : ev E M (.astore 7 :: c) (a0 :: a1 :: a2 :: a3 :: a4 :: a5 :: a6 :: b :: L) (.ref x :: S) h = ev E M c (a0 :: a1 :: a2 :: a3 :: a4 :: a5 :: am_kp a6 :: .ref x :: L) S h := ev_go (by simp only [am_step, List.length_cons]; rw [if_pos (by omega)]; rfl)
theorem e_lstore_7 {a0 a1 a2 a3 a4 a5 a6 : Value} {b b2 : Value} {x : Int64} : ev E M (.lstore 7 :: c) (a0 :: a1 :: a2 :: a3 :: a4 :: a5 :: a6 :: b :: b2 :: L) (.long x :: S) h = ev E M c (a0 :: a1 :: a2 :: a3 :: a4 :: a5 :: am_kp a6 :: .long x :: am_dm :: L) S h := ev_go (by simp only [am_step, List.length_cons]; rw [if_pos (by omega)]; rfl)
theorem e_iinc_7 {a0 a1 a2 a3 a4 a5 a6 : Value} {x : Int32} {v : Int} : ev E M (.iinc 7 v :: c) (a0 :: a1 :: a2 :: a3 :: a4 :: a5 :: a6 :: .int x :: L) S h = ev E M c (a0 :: a1 :: a2 :: a3 :: a4 :: a5 :: am_kp a6 :: .int (x + Int32.ofInt v) :: L) S h := ev_go rfl
theorem e_iload_8 {a0 a1 a2 a3 a4 a5 a6 a7 : Value} {x : Int32} : ev E M (.iload 8 :: c) (a0 :: a1 :: a2 :: a3 :: a4 :: a5 :: a6 :: a7 :: .int x :: L) S h = ev E M c (a0 :: a1 :: a2 :: a3 :: a4 :: a5 :: a6 :: a7 :: .int x :: L) (.int x :: S) h := ev_go rfl
theorem e_lload_8 {a0 a1 a2 a3 a4 a5 a6 a7 : Value} {x : Int64} : ev E M (.lload 8 :: c) (a0 :: a1 :: a2 :: a3 :: a4 :: a5 :: a6 :: a7 :: .long x :: L) S h = ev E M c (a0 :: a1 :: a2 :: a3 :: a4 :: a5 :: a6 :: a7 :: .long x :: L) (.long x :: S) h := ev_go rfl
theorem e_aloadr_8 {a0 a1 a2 a3 a4 a5 a6 a7 : Value} {x : Nat} : ev E M (.aload 8 :: c) (a0 :: a1 :: a2 :: a3 :: a4 :: a5 :: a6 :: a7 :: .ref x :: L) S h = ev E M c (a0 :: a1 :: a2 :: a3 :: a4 :: a5 :: a6 :: a7 :: .ref x :: L) (.ref x :: S) h := ev_go rfl
theorem e_aloadx_8 {a0 a1 a2 a3 a4 a5 a6 a7 : Value} {x : Nat} : ev E M (.aload 8 :: c) (a0 :: a1 :: a2 :: a3 :: a4 :: a5 :: a6 :: a7 :: .retAddr x :: L) S h = ev E M c (a0 :: a1 :: a2 :: a3 :: a4 :: a5 :: a6 :: a7 :: .retAddr x :: L) (.retAddr x :: S) h := ev_go rfl
theorem e_istore_8 {a0 a1 a2 a3 a4 a5 a6 a7 : Value} {b : Value} {x : Int32} : ev E M (.istore 8 :: c) (a0 :: a1 :: a2 :: a3 :: a4 :: a5 :: a6 :: a7 :: b :: L) (.int x :: S) h = ev E M c (a0 :: a1 :: a2 :: a3 :: a4 :: a5 :: a6 :: am_kp a7 :: .int x :: L) S h := ev_go (by simp only [am_step, List.length_cons]; rw [if_pos (by omega)]; rfl)
theorem e_astore_8 {a0 a1 a2 a3 a4 a5 a6 a7 : Value} {b : Value} {x : Nat} : ev E M (.astore 8 :: c) (a0 :: a1 :: a2 :: a3 :: a4 :: a5 :: a6 :: a7 :: b :: L) (.ref x :: S) h = ev E M c (a0 :: a1 :: a2 :: a3 :: a4 :: a5 :: a6 :: am_kp a7 :: .ref x :: L) S h := ev_go (by simp only [am_step, List.length_cons]; rw [if_pos (by omega)]; rfl)
theorem e_lstore_8 {a0 a1 a2 a3 a4 a5 a6 a7 : Value} {b b2 : Value} {x : Int64} : ev E M (.lstore 8 :: c) (a0 :: a1 :: a2 :: a3 :: a4 :: a5 :: a6 :: a7 :: b :: b2 :: L) (.long x :: S) h = ev E M c (a0 :: a1 :: a2 :: a3 :: a4 :: a5 :: a6 :: am_kp a7 :: .long x :: am_dm :: L) S h := ev_go (by simp only [am_step, List.length_cons]; rw [if_pos (by omega)]; rfl)
theorem e_iinc_8 {a0 a1 a2 a3 a4 a5 a6 a7 : Value} {x : Int32} {v : Int} : ev E M (.iinc 8 v :: c) (a0 :: a1 :: a2 :: a3 :: a4 :: a5 :: a6 :: a7 :: .int x :: L) S h = ev E M c (a0 :: a1 :: a2 :: a3 :: a4 :: a5 :: a6 :: am_kp a7 :: .int (x + Int32.ofInt v) :: L) S h := ev_go rfl
theorem e_iload_9 {a0 a1 a2 a3 a4 a5 a6 a7 a8 : Value} {x : Int32} : ev E M (.iload 9 :: c) (a0 :: a1 :: a2 :: a3 :: a4 :: a5 :: a6 :: a7 :: a8 :: .int x :: L) S h = ev E M c (a0 :: a1 :: a2 :: a3 :: a4 :: a5 :: a6 :: a7 :: a8 :: .int x :: L) (.int x :: S) h := ev_go rfl
theorem e_lload_9 {a0 a1 a2 a3 a4 a5 a6 a7 a8 : Value} {x : Int64} : ev E M (.lload 9 :: c) (a0 :: a1 :: a2 :: a3 :: a4 :: a5 :: a6 :: a7 :: a8 :: .long x :: L) S h = ev E M c (a0 :: a1 :: a2 :: a3 :: a4 :: a5 :: a6 :: a7 :: a8 :: .long x :: L) (.long x :: S) h := ev_go rfl
theorem e_aloadr_9 {a0 a1 a2 a3 a4 a5 a6 a7 a8 : Value} {x : Nat} : ev E M (.aload 9 :: c) (a0 :: a1 :: a2 :: a3 :: a4 :: a5 :: a6 :: a7 :: a8 :: .ref x :: L) S h = ev E M c (a0 :: a1 :: a2 :: a3 :: a4 :: a5 :: a6 :: a7 :: a8 :: .ref x :: L) (.ref x :: S) h := ev_go rfl
theorem e_aloadx_9 {a0 a1 a2 a3 a4 a5 a6 a7 a8 : Value} {x : Nat} : ev E M (.aload 9 :: c) (a0 :: a1 :: a2 :: a3 :: a4 :: a5 :: a6 :: a7 :: a8 :: .retAddr x :: L) S h = ev E M c (a0 :: a1 :: a2 :: a3 :: a4 :: a5 :: a6 :: a7 :: a8 :: .retAddr x :: L) (.retAddr x :: S) h := ev_go rfl
theorem e_istore_9 {a0 a1 a2 a3 a4 a5 a6 a7 a8 : Value} {b : Value} {x : Int32} : ev E M (.istore 9 :: c) (a0 :: a1 :: a2 :: a3 :: a4 :: a5 :: a6 :: a7 :: a8 :: b :: L) (.int x :: S) h = ev E M c (a0 :: a1 :: a2 :: a3 :: a4 :: a5 :: a6 :: a7 :: am_kp a8 :: .int x :: L) S h := ev_go (by simp only [am_step, List.length_cons]; rw [if_pos (by omega)]; rfl)
theorem e_astore_9 {a0 a1 a2 a3 a4 a5 a6 a7 a8 : Value} {b : Value} {x : Nat} : ev E M (.astore 9 :: c) (a0 :: a1 :: a2 :: a3 :: a4 :: a5 :: a6 :: a7 :: a8 :: b :: L) (.ref x :: S) h = ev E M c (a0 :: a1 :: a2 :: a3 :: a4 :: a5 :: a6 :: a7 :: am_kp a8 :: .ref x :: L) S h := ev_go (by simp only [am_step, List.length_cons]; rw [if_pos (by omega)]; rfl)
theorem e_lstore_9 {a0 a1 a2 a3 a4 a5 a6 a7 a8 : Value} {b b2 : Value} {x : Int64} : ev E M (.lstore 9 :: c) (a0 :: a1 :: a2 :: a3 :: a4 :: a5 :: a6 :: a7 :: a8 :: b :: b2 :: L) (.long x :: S) h = ev E M c (a0 :: a1 :: a2 :: a3 :: a4 :: a5 :: a6 :: a7 :: am_kp a8 :: .long x :: am_dm :: L) S h := ev_go (by simp only [am_step, List.length_cons]; rw [if_pos (by omega)]; rfl)
theorem e_iinc_9 {a0 a1 a2 a3 a4 a5 a6 a7 a8 : Value} {x : Int32} {v : Int} : ev E M (.iinc 9 v :: c) (a0 :: a1 :: a2 :: a3 :: a4 :: a5 :: a6 :: a7 :: a8 :: .int x :: L) S h = ev E M c (a0 :: a1 :: a2 :: a3 :: a4 :: a5 :: a6 :: a7 :: am_kp a8 :: .int (x + Int32.ofInt v) :: L) S h := ev_go rfl
theorem e_iload_10 {a0 a1 a2 a3 a4 a5 a6 a7 a8 a9 : Value} {x : Int32} : ev E M (.iload 10 :: c) (a0 :: a1 :: a2 :: a3 :: a4 :: a5 :: a6 :: a7 :: a8 :: a9 :: .int x :: L) S h = ev E M c (a0 :: a1 :: a2 :: a3 :: a4 :: a5 :: a6 :: a7 :: a8 :: a9 :: .int x :: L) (.int x :: S) h := ev_go rfl
theorem e_lload_10 {a0 a1 a2 a3 a4 a5 a6 a7 a8 a9 : Value} {x : Int64} : ev E M (.lload 10 :: c) (a0 :: a1 :: a2 :: a3 :: a4 :: a5 :: a6 :: a7 :: a8 :: a9 :: .long x :: L) S h = ev E M c (a0 :: a1 :: a2 :: a3 :: a4 :: a5 :: a6 :: a7 :: a8 :: a9 :: .long x :: L) (.long x :: S) h := ev_go rfl
theorem e_aloadr_10 {a0 a1 a2 a3 a4 a5 a6 a7 a8 a9 : Value} {x : Nat} : ev E M (.aload 10 :: c) (a0 :: a1 :: a2 :: a3 :: a4 :: a5 :: a6 :: a7 :: a8 :: a9 :: .ref x :: L) S h = ev E M c (a0 :: a1 :: a2 :: a3 :: a4 :: a5 :: a6 :: a7 :: a8 :: a9 :: .ref x :: L) (.ref x :: S) h := ev_go rfl
theorem e_aloadx_10 {a0 a1 a2 a3 a4 a5 a6 a7 a8 a9 : Value} {x : Nat} : ev E M (.aload 10 :: c) (a0 :: a1 :: a2 :: a3 :: a4 :: a5 :: a6 :: a7 :: a8 :: a9 :: .retAddr x :: L) S h = ev E M c (a0 :: a1 :: a2 :: a3 :: a4 :: a5 :: a6 :: a7 :: a8 :: a9 :: .retAddr x :: L) (.retAddr x :: S) h := ev_go rfl
theorem e_istore_10 {a0 a1 a2 a3 a4 a5 a6 a7 a8 a9 : Value} {b : Value} {x : Int32} : ev E M (.istore 10 :: c) (a0 :: a1 :: a2 :: a3 :: a4 :: a5 :: a6 :: a7 :: a8 :: a9 :: b :: L) (.int x :: S) h = ev E M c (a0 :: a1 :: a2 :: a3 :: a4 :: a5 :: a6 :: a7 :: a8 :: am_kp a9 :: .int x :: L) S h := ev_go (by simp only [am_step, List.length_cons]; rw [if_pos (by omega)]; rfl)
theorem e_astore_10 {a0 a1 a2 a3 a4 a5 a6 a7 a8 a9 : Value} {b : Value} {x : Nat} : ev E M (.astore 10 :: c) (a0 :: a1 :: a2 :: a3 :: a4 :: a5 :: a6 :: a7 :: a8 :: a9 :: b :: L) (.ref x :: S) h = ev E M c (a0 :: a1 :: a2 :: a3 :: a4 :: a5 :: a6 :: a7 :: a8 :: am_kp a9 :: .ref x :: L) S h := ev_go (by simp only [am_step, List.length_cons]; rw [if_pos (by omega)]; rfl)
theorem e_lstore_10 {a0 a1 a2 a3 a4 a5 a6 a7 a8 a9 : Value} {b b2 : Value} {x : Int64} : ev E M (.lstore 10 :: c) (a0 :: a1 :: a2 :: a3 :: a4 :: a5 :: a6 :: a7 :: a8 :: a9 :: b :: b2 :: L) (.long x :: S) h = ev E M c (a0 :: a1 :: a2 :: a3 :: a4 :: a5 :: a6 :: a7 :: a8 :: am_kp a9 :: .long x :: am_dm :: L) S h := ev_go (by simp only [am_step, List.length_cons]; rw [if_pos (by omega)]; rfl)
theorem e_iinc_10 {a0 a1 a2 a3 a4 a5 a6 a7 a8 a9 : Value} {x : Int32} {v : Int} : ev E M (.iinc 10 v :: c) (a0 :: a1 :: a2 :: a3 :: a4 :: a5 :: a6 :: a7 :: a8 :: a9 :: .int x :: L) S h = ev E M c (a0 :: a1 :: a2 :: a3 :: a4 :: a5 :: a6 :: a7 :: a8 :: am_kp a9 :: .int (x + Int32.ofInt v) :: L) S h := ev_go rfl
theorem e_iload_11 {a0 a1 a2 a3 a4 a5 a6 a7 a8 a9 a10 : Value} {x : Int32} : ev E M (.iload 11 :: c) (a0 :: a1 :: a2 :: a3 :: a4 :: a5 :: a6 :: a7 :: a8 :: a9 :: a10 :: .int x :: L) S h = ev E M c (a0 :: a1 :: a2 :: a3 :: a4 :: a5 :: a6 :: a7 :: a8 :: a9 :: a10 :: .int x :: L) (.int x :: S) h := ev_go rfl
theorem e_lload_11 {a0 a1 a2 a3 a4 a5 a6 a7 a8 a9 a10 : Value} {x : Int64} : ev E M (.lload 11 :: c) (a0 :: a1 :: a2 :: a3 :: a4 :: a5 :: a6 :: a7 :: a8 :: a9 :: a10 :: .long x :: L) S h = ev E M c (a0 :: a1 :: a2 :: a3 :: a4 :: a5 :: a6 :: a7 :: a8 :: a9 :: a10 :: .long x :: L) (.long x :: S) h := ev_go rfl
theorem e_aloadr_11 {a0 a1 a2 a3 a4 a5 a6 a7 a8 a9 a10 : Value} {x : Nat} : ev E M (.aload 11 :: c) (a0 :: a1 :: a2 :: a3 :: a4 :: a5 :: a6 :: a7 :: a8 :: a9 :: a10 :: .ref x :: L) S h = ev E M c (a0 :: a1 :: a2 :: a3 :: a4 :: a5 :: a6 :: a7 :: a8 :: a9 :: a10 :: .ref x :: L) (.ref x :: S) h := ev_go rfl
theorem e_aloadx_11 {a0 a1 a2 a3 a4 a5 a6 a7 a8 a9 a10 : Value} {x : Nat} : ev E M (.aload 11 :: c) (a0 :: a1 :: a2 :: a3 :: a4 :: a5 :: a6 :: a7 :: a8 :: a9 :: a10 :: .retAddr x :: L) S h = ev E M c (a0 :: a1 :: a2 :: a3 :: a4 :: a5 :: a6 :: a7 :: a8 :: a9 :: a10 :: .retAddr x :: L) (.retAddr x :: S) h := ev_go rfl
theorem e_istore_11 {a0 a1 a2 a3 a4 a5 a6 a7 a8 a9 a10 : Value} {b : Value} {x : Int32} : ev E M (.istore 11 :: c) (a0 :: a1 :: a2 :: a3 :: a4 :: a5 :: a6 :: a7 :: a8 :: a9 :: a10 :: b :: L) (.int x :: S) h = ev E M c (a0 :: a1 :: a2 :: a3 :: a4 :: a5 :: a6 :: a7 :: a8 :: a9 :: am_kp a10 :: .int x :: L) S h := ev_go (by simp only [am_step, List.length_cons]; rw [if_pos (by omega)]; rfl)
theorem e_astore_11 {a0 a1 a2 a3 a4 a5 a6 a7 a8 a9 a10 : Value} {b : Value} {x : Nat} : ev E M (.astore 11 :: c) (a0 :: a1 :: a2 :: a3 :: a4 :: a5 :: a6 :: a7 :: a8 :: a9 :: a10 :: b :: L) (.ref x :: S) h = ev E M c (a0 :: a1 :: a2 :: a3 :: a4 :: a5 :: a6 :: a7 :: a8 :: a9 :: am_kp a10 :: .ref x :: L) S h := ev_go (by simp only [am_step, List.length_cons]; rw [if_pos (by omega)]; rfl)
theorem e_lstore_11 {a0 a1 a2 a3 a4 a5 a6 a7 a8 a9 a10 : Value} {b b2 : Value} {x : Int64} : ev E M (.lstore 11 :: c) (a0 :: a1 :: a2 :: a3 :: a4 :: a5 :: a6 :: a7 :: a8 :: a9 :: a10 :: b :: b2 :: L) (.long x :: S) h = ev E M c (a0 :: a1 :: a2 :: a3 :: a4 :: a5 :: a6 :: a7 :: a8 :: a9 :: am_kp a10 :: .long x :: am_dm :: L) S h := ev_go (by simp only [am_step, List.length_cons]; rw [if_pos (by omega)]; rfl)
theorem e_iinc_11 {a0 a1 a2 a3 a4 a5 a6 a7 a8 a9 a10 : Value} {x : Int32} {v : Int} : ev E M (.iinc 11 v :: c) (a0 :: a1 :: a2 :: a3 :: a4 :: a5 :: a6 :: a7 :: a8 :: a9 :: a10 :: .int x :: L) S h = ev E M c (a0 :: a1 :: a2 :: a3 :: a4 :: a5 :: a6 :: a7 :: a8 :: a9 :: am_kp a10 :: .int (x + Int32.ofInt v) :: L) S h := ev_go rfl
theorem e_iload_12 {a0 a1 a2 a3 a4 a5 a6 a7 a8 a9 a10 a11 : Value} {x : Int32} : ev E M (.iload 12 :: c) (a0 :: a1 :: a2 :: a3 :: a4 :: a5 :: a6 :: a7 :: a8 :: a9 :: a10 :: a11 :: .int x :: L) S h = ev E M c (a0 :: a1 :: a2 :: a3 :: a4 :: a5 :: a6 :: a7 :: a8 :: a9 :: a10 :: a11 :: .int x :: L) (.int x :: S) h := ev_go rfl
theorem e_lload_12 {a0 a1 a2 a3 a4 a5 a6 a7 a8 a9 a10 a11 : Value} {x : Int64} : ev E M (.lload 12 :: c) (a0 :: a1 :: a2 :: a3 :: a4 :: a5 :: a6 :: a7 :: a8 :: a9 :: a10 :: a11 :: .long x :: L) S h = ev E M c (a0 :: a1 :: a2 :: a3 :: a4 :: a5 :: a6 :: a7 :: a8 :: a9 :: a10 :: a11 :: .long x :: L) (.long x :: S) h := ev_go rfl
theorem e_aloadr_12 {a0 a1 a2 a3 a4 a5 a6 a7 a8 a9 a10 a11 : Value} {x : Nat} : ev E M (.aload 12 :: c) (a0 :: a1 :: a2 :: a3 :: a4 :: a5 :: a6 :: a7 :: a8 :: a9 :: a10 :: a11 :: .ref x :: L) S h = ev E M c (a0 :: a1 :: a2 :: a3 :: a4 :: a5 :: a6 :: a7 :: a8 :: a9 :: a10 :: a11 :: .ref x :: L) (.ref x :: S) h := ev_go rfl
theorem e_aloadx_12 {a0 a1 a2 a3 a4 a5 a6 a7 a8 a9 a10 a11 : Value} {x : Nat} : ev E M (.aload 12 :: c) (a0 :: a1 :: a2 :: a3 :: a4 :: a5 :: a6 :: a7 :: a8 :: a9 :: a10 :: a11 :: .retAddr x :: L) S h = ev E M c (a0 :: a1 :: a2 :: a3 :: a4 :: a5 :: a6 :: a7 :: a8 :: a9 :: a10 :: a11 :: .retAddr x :: L) (.retAddr x :: S) h := ev_go rfl
theorem e_istore_12 {a0 a1 a2 a3 a4 a5 a6 a7 a8 a9 a10 a11 : Value} {b : Value} {x : Int32} : ev E M (.istore 12 :: c) (a0 :: a1 :: a2 :: a3 :: a4 :: a5 :: a6 :: a7 :: a8 :: a9 :: a10 :: a11 :: b :: L) (.int x :: S) h = ev E M c (a0 :: a1 :: a2 :: a3 :: a4 :: a5 :: a6 :: a7 :: a8 :: a9 :: a10 :: am_kp a11 :: .int x :: L) S h := ev_go (by simp only [am_step, List.length_cons]; rw [if_pos (by omega)]; rfl)
theorem e_astore_12 {a0 a1 a2 a3 a4 a5 a6 a7 a8 a9 a10 a11 : Value} {b : Value} {x : Nat} : ev E M (.astore 12 :: c) (a0 :: a1 :: a2 :: a3 :: a4 :: a5 :: a6 :: a7 :: a8 :: a9 :: a10 :: a11 :: b :: L) (.ref x :: S) h = ev E M c (a0 :: a1 :: a2 :: a3 :: a4 :: a5 :: a6 :: a7 :: a8 :: a9 :: a10 :: am_kp a11 :: .ref x :: L) S h := ev_go (by simp only [am_step, List.length_cons]; rw [if_pos (by omega)]; rfl)
theorem e_lstore_12 {a0 a1 a2 a3 a4 a5 a6 a7 a8 a9 a10 a11 : Value} {b b2 : Value} {x : Int64} : ev E M (.lstore 12 :: c) (a0 :: a1 :: a2 :: a3 :: a4 :: a5 :: a6 :: a7 :: a8 :: a9 :: a10 :: a11 :: b :: b2 :: L) (.long x :: S) h = ev E M c (a0 :: a1 :: a2 :: a3 :: a4 :: a5 :: a6 :: a7 :: a8 :: a9 :: a10 :: am_kp a11 :: .long x :: am_dm :: L) S h := ev_go (by simp only [am_step, List.length_cons]; rw [if_pos (by omega)]; rfl)
theorem e_iinc_12 {a0 a1 a2 a3 a4 a5 a6 a7 a8 a9 a10 a11 : Value} {x : Int32} {v : Int} : ev E M (.iinc 12 v :: c) (a0 :: a1 :: a2 :: a3 :: a4 :: a5 :: a6 :: a7 :: a8 :: a9 :: a10 :: a11 :: .int x :: L) S h = ev E M c (a0 :: a1 :: a2 :: a3 :: a4 :: a5 :: a6 :: a7 :: a8 :: a9 :: a10 :: am_kp a11 :: .int (x + Int32.ofInt v) :: L) S h := ev_go rfl
theorem e_iload_13 {a0 a1 a2 a3 a4 a5 a6 a7 a8 a9 a10 a11 a12 : Value} {x : Int32} : ev E M (.iload 13 :: c) (a0 :: a1 :: a2 :: a3 :: a4 :: a5 :: a6 :: a7 :: a8 :: a9 :: a10 :: a11 :: a12 :: .int x :: L) S h = ev E M c (a0 :: a1 :: a2 :: a3 :: a4 :: a5 :: a6 :: a7 :: a8 :: a9 :: a10 :: a11 :: a12 :: .int x :: L) (.int x :: S) h := ev_go rfl
theorem e_lload_13 {a0 a1 a2 a3 a4 a5 a6 a7 a8 a9 a10 a11 a12 : Value} {x : Int64} : ev E M (.lload 13 :: c) (a0 :: a1 :: a2 :: a3 :: a4 :: a5 :: a6 :: a7 :: a8 :: a9 :: a10 :: a11 :: a12 :: .long x :: L) S h = ev E M c (a0 :: a1 :: a2 :: a3 :: a4 :: a5 :: a6 :: a7 :: a8 :: a9 :: a10 :: a11 :: a12 :: .long x :: L) (.long x :: S) h := ev_go rfl
theorem e_aloadr_13 {a0 a1 a2 a3 a4 a5 a6 a7 a8 a9 a10 a11 a12 : Value} {x : Nat} : ev E M (.aload 13 :: c) (a0 :: a1 :: a2 :: a3 :: a4 :: a5 :: a6 :: a7 :: a8 :: a9 :: a10 :: a11 :: a12 :: .ref x :: L) S h = ev E M c (a0 :: a1 :: a2 :: a3 :: a4 :: a5 :: a6 :: a7 :: a8 :: a9 :: a10 :: a11 :: a12 :: .ref x :: L) (.ref x :: S) h := ev_go rfl
theorem e_aloadx_13 {a0 a1 a2 a3 a4 a5 a6 a7 a8 a9 a10 a11 a12 : Value} {x : Nat} : ev E M (.aload 13 :: c) (a0 :: a1 :: a2 :: a3 :: a4 :: a5 :: a6 :: a7 :: a8 :: a9 :: a10 :: a11 :: a12 :: .retAddr x :: L) S h = ev E M c (a0 :: a1 :: a2 :: a3 :: a4 :: a5 :: a6 :: a7 :: a8 :: a9 :: a10 :: a11 :: a12 :: .retAddr x :: L) (.retAddr x :: S) h := ev_go rfl
theorem e_istore_13 {a0 a1 a2 a3 a4 a5 a6 a7 a8 a9 a10 a11 a12 : Value} {b : Value} {x : Int32} : ev E M (.istore 13 :: c) (a0 :: a1 :: a2 :: a3 :: a4 :: a5 :: a6 :: a7 :: a8 :: a9 :: a10 :: a11 :: a12 :: b :: L) (.int x :: S) h = ev E M c (a0 :: a1 :: a2 :: a3 :: a4 :: a5 :: a6 :: a7 :: a8 :: a9 :: a10 :: a11 :: am_kp a12 :: .int x :: L) S h := ev_go (by simp only [am_step, List.length_cons]; rw [if_pos (by omega)]; rfl)
theorem e_astore_13 {a0 a1 a2 a3 a4 a5 a6 a7 a8 a9 a10 a11 a12 : Value} {b : Value} {x : Nat} : ev E M (.astore 13 :: c) (a0 :: a1 :: a2 :: a3 :: a4 :: a5 :: a6 :: a7 :: a8 :: a9 :: a10 :: a11 :: a12 :: b :: L) (.ref x :: S) h = ev E M c (a0 :: a1 :: a2 :: a3 :: a4 :: a5 :: a6 :: a7 :: a8 :: a9 :: a10 :: a11 :: am_kp a12 :: .ref x :: L) S h := ev_go (by simp only [am_step, List.length_cons]; rw [if_pos (by omega)]; rfl)
theorem e_lstore_13 {a0 a1 a2 a3 a4 a5 a6 a7 a8 a9 a10 a11 a12 : Value} {b b2 : Value} {x : Int64} : ev E M (.lstore 13 :: c) (a0 :: a1 :: a2 :: a3 :: a4 :: a5 :: a6 :: a7 :: a8 :: a9 :: a10 :: a11 :: a12 :: b :: b2 :: L) (.long x :: S) h = ev E M c (a0 :: a1 :: a2 :: a3 :: a4 :: a5 :: a6 :: a7 :: a8 :: a9 :: a10 :: a11 :: am_kp a12 :: .long x :: am_dm :: L) S h := ev_go (by simp only [am_step, List.length_cons]; rw [if_pos (by omega)]; rfl)
theorem e_iinc_13 {a0 a1 a2 a3 a4 a5 a6 a7 a8 a9 a10 a11 a12 : Value} {x : Int32} {v : Int} : ev E M (.iinc 13 v :: c) (a0 :: a1 :: a2 :: a3 :: a4 :: a5 :: a6 :: a7 :: a8 :: a9 :: a10 :: a11 :: a12 :: .int x :: L) S h = ev E M c (a0 :: a1 :: a2 :: a3 :: a4 :: a5 :: a6 :: a7 :: a8 :: a9 :: a10 :: a11 :: am_kp a12 :: .int (x + Int32.ofInt v) :: L) S h := ev_go rfl
theorem e_iload_14 {a0 a1 a2 a3 a4 a5 a6 a7 a8 a9 a10 a11 a12 a13 : Value} {x : Int32} : ev E M (.iload 14 :: c) (a0 :: a1 :: a2 :: a3 :: a4 :: a5 :: a6 :: a7 :: a8 :: a9 :: a10 :: a11 :: a12 :: a13 :: .int x :: L) S h = ev E M c (a0 :: a1 :: a2 :: a3 :: a4 :: a5 :: a6 :: a7 :: a8 :: a9 :: a10 :: a11 :: a12 :: a13 :: .int x :: L) (.int x :: S) h := ev_go rfl
theorem e_lload_14 {a0 a1 a2 a3 a4 a5 a6 a7 a8 a9 a10 a11 a12 a13 : Value} {x : Int64} : ev E M (.lload 14 :: c) (a0 :: a1 :: a2 :: a3 :: a4 :: a5 :: a6 :: a7 :: a8 :: a9 :: a10 :: a11 :: a12 :: a13 :: .long x :: L) S h = ev E M c (a0 :: a1 :: a2 :: a3 :: a4 :: a5 :: a6 :: a7 :: a8 :: a9 :: a10 :: a11 :: a12 :: a13 :: .long x :: L) (.long x :: S) h := ev_go rfl
theorem e_aloadr_14 {a0 a1 a2 a3 a4 a5 a6 a7 a8 a9 a10 a11 a12 a13 : Value} {x : Nat} : ev E M (.aload 14 :: c) (a0 :: a1 :: a2 :: a3 :: a4 :: a5 :: a6 :: a7 :: a8 :: a9 :: a10 :: a11 :: a12 :: a13 :: .ref x :: L) S h = ev E M c (a0 :: a1 :: a2 :: a3 :: a4 :: a5 :: a6 :: a7 :: a8 :: a9 :: a10 :: a11 :: a12 :: a13 :: .ref x :: L) (.ref x :: S) h := ev_go rfl
theorem e_aloadx_14 {a0 a1 a2 a3 a4 a5 a6 a7 a8 a9 a10 a11 a12 a13 : Value} {x : Nat} : ev E M (.aload 14 :: c) (a0 :: a1 :: a2 :: a3 :: a4 :: a5 :: a6 :: a7 :: a8 :: a9 :: a10 :: a11 :: a12 :: a13 :: .retAddr x :: L) S h = ev E M c (a0 :: a1 :: a2 :: a3 :: a4 :: a5 :: a6 :: a7 :: a8 :: a9 :: a10 :: a11 :: a12 :: a13 :: .retAddr x :: L) (.retAddr x :: S) h := ev_go rfl
theorem e_istore_14 {a0 a1 a2 a3 a4 a5 a6 a7 a8 a9 a10 a11 a12 a13 : Value} {b : Value} {x : Int32} : ev E M (.istore 14 :: c) (a0 :: a1 :: a2 :: a3 :: a4 :: a5 :: a6 :: a7 :: a8 :: a9 :: a10 :: a11 :: a12 :: a13 :: b :: L) (.int x :: S) h = ev E M c (a0 :: a1 :: a2 :: a3 :: a4 :: a5 :: a6 :: a7 :: a8 :: a9 :: a10 :: a11 :: a12 :: am_kp a13 :: .int x :: L) S h := ev_go (by simp only [am_step, List.length_cons]; rw [if_pos (by omega)]; rfl)
theorem e_astore_14 {a0 a1 a2 a3 a4 a5 a6 a7 a8 a9 a10 a11 a12 a13 : Value} {b : Value} {x : Nat} : ev E M (.astore 14 :: c) (a0 :: a1 :: a2 :: a3 :: a4 :: a5 :: a6 :: a7 :: a8 :: a9 :: a10 :: a11 :: a12 :: a13 :: b :: L) (.ref x :: S) h = ev E M c (a0 :: a1 :: a2 :: a3 :: a4 :: a5 :: a6 :: a7 :: a8 :: a9 :: a10 :: a11 :: a12 :: am_kp a13 :: .ref x :: L) S h := ev_go (by simp only [am_step, List.length_cons]; rw [if_pos (by omega)]; rfl)
theorem e_lstore_14 {a0 a1 a2 a3 a4 a5 a6 a7 a8 a9 a10 a11 a12 a13 : Value} {b b2 : Value} {x : Int64} : ev E M (.lstore 14 :: c) (a0 :: a1 :: a2 :: a3 :: a4 :: a5 :: a6 :: a7 :: a8 :: a9 :: a10 :: a11 :: a12 :: a13 :: b :: b2 :: L) (.long x :: S) h = ev E M c (a0 :: a1 :: a2 :: a3 :: a4 :: a5 :: a6 :: a7 :: a8 :: a9 :: a10 :: a11 :: a12 :: am_kp a13 :: .long x :: am_dm :: L) S h := ev_go (by simp only [am_step, List.length_cons]; rw [if_pos (by omega)]; rfl)
theorem e_iinc_14 {a0 a1 a2 a3 a4 a5 a6 a7 a8 a9 a10 a11 a12 a13 : Value} {x : Int32} {v : Int} : ev E M (.iinc 14 v :: c) (a0 :: a1 :: a2 :: a3 :: a4 :: a5 :: a6 :: a7 :: a8 :: a9 :: a10 :: a11 :: a12 :: a13 :: .int x :: L) S h = ev E M c (a0 :: a1 :: a2 :: a3 :: a4 :: a5 :: a6 :: a7 :: a8 :: a9 :: a10 :: a11 :: a12 :: am_kp a13 :: .int (x + Int32.ofInt v) :: L) S h := ev_go rfl
theorem e_iload_15 {a0 a1 a2 a3 a4 a5 a6 a7 a8 a9 a10 a11 a12 a13 a14 : Value} {x : Int32} : ev E M (.iload 15 :: c) (a0 :: a1 :: a2 :: a3 :: a4 :: a5 :: a6 :: a7 :: a8 :: a9 :: a10 :: a11 :: a12 :: a13 :: a14 :: .int x :: L) S h = ev E M c (a0 :: a1 :: a2 :: a3 :: a4 :: a5 :: a6 :: a7 :: a8 :: a9 :: a10 :: a11 :: a12 :: a13 :: a14 :: .int x :: L) (.int x :: S) h := ev_go rfl
theorem e_lload_15 {a0 a1 a2 a3 a4 a5 a6 a7 a8 a9 a10 a11 a12 a13 a14 : Value} {x : Int64} : ev E M (.lload 15 :: c) (a0 :: a1 :: a2 :: a3 :: a4 :: a5 :: a6 :: a7 :: a8 :: a9 :: a10 :: a11 :: a12 :: a13 :: a14 :: .long x :: L) S h = ev E M c (a0 :: a1 :: a2 :: a3 :: a4 :: a5 :: a6 :: a7 :: a8 :: a9 :: a10 :: a11 :: a12 :: a13 :: a14 :: .long x :: L) (.long x :: S) h := ev_go rfl
theorem e_aloadr_15 {a0 a1 a2 a3 a4 a5 a6 a7 a8 a9 a10 a11 a12 a13 a14 : Value} {x : Nat} : ev E M (.aload 15 :: c) (a0 :: a1 :: a2 :: a3 :: a4 :: a5 :: a6 :: a7 :: a8 :: a9 :: a10 :: a11 :: a12 :: a13 :: a14 :: .ref x :: L) S h = ev E M c (a0 :: a1 :: a2 :: a3 :: a4 :: a5 :: a6 :: a7 :: a8 :: a9 :: a10 :: a11 :: a12 :: a13 :: a14 :: .ref x :: L) (.ref x :: S) h := ev_go rfl
theorem e_aloadx_15 {a0 a1 a2 a3 a4 a5 a6 a7 a8 a9 a10 a11 a12 a13 a14 : Value} {x : Nat} : ev E M (.aload 15 :: c) (a0 :: a1 :: a2 :: a3 :: a4 :: a5 :: a6 :: a7 :: a8 :: a9 :: a10 :: a11 :: a12 :: a13 :: a14 :: .retAddr x :: L) S h = ev E M c (a0 :: a1 :: a2 :: a3 :: a4 :: a5 :: a6 :: a7 :: a8 :: a9 :: a10 :: a11 :: a12 :: a13 :: a14 :: .retAddr x :: L) (.retAddr x :: S) h := ev_go rfl
theorem e_istore_15 {a0 a1 a2 a3 a4 a5 a6 a7 a8 a9 a10 a11 a12 a13 a14 : Value} {b : Value} {x : Int32} : ev E M (.istore 15 :: c) (a0 :: a1 :: a2 :: a3 :: a4 :: a5 :: a6 :: a7 :: a8 :: a9 :: a10 :: a11 :: a12 :: a13 :: a14 :: b :: L) (.int x :: S) h = ev E M c (a0 :: a1 :: a2 :: a3 :: a4 :: a5 :: a6 :: a7 :: a8 :: a9 :: a10 :: a11 :: a12 :: a13 :: am_kp a14 :: .int x :: L) S h := ev_go (by simp only [am_step, List.length_cons]; rw [if_pos (by omega)]; rfl)
theorem e_astore_15 {a0 a1 a2 a3 a4 a5 a6 a7 a8 a9 a10 a11 a12 a13 a14 : Value} {b : Value} {x : Nat} : ev E M (.astore 15 :: c) (a0 :: a1 :: a2 :: a3 :: a4 :: a5 :: a6 :: a7 :: a8 :: a9 :: a10 :: a11 :: a12 :: a13 :: a14 :: b :: L) (.ref x :: S) h = ev E M c (a0 :: a1 :: a2 :: a3 :: a4 :: a5 :: a6 :: a7 :: a8 :: a9 :: a10 :: a11 :: a12 :: a13 :: am_kp a14 :: .ref x :: L) S h := ev_go (by simp only [am_step, List.length_cons]; rw [if_pos (by omega)]; rfl)
theorem e_lstore_15 {a0 a1 a2 a3 a4 a5 a6 a7 a8 a9 a10 a11 a12 a13 a14 : Value} {b b2 : Value} {x : Int64} : ev E M (.lstore 15 :: c) (a0 :: a1 :: a2 :: a3 :: a4 :: a5 :: a6 :: a7 :: a8 :: a9 :: a10 :: a11 :: a12 :: a13 :: a14 :: b :: b2 :: L) (.long x :: S) h = ev E M c (a0 :: a1 :: a2 :: a3 :: a4 :: a5 :: a6 :: a7 :: a8 :: a9 :: a10 :: a11 :: a12 :: a13 :: am_kp a14 :: .long x :: am_dm :: L) S h := ev_go (by simp only [am_step, List.length_cons]; rw [if_pos (by omega)]; rfl)
theorem e_iinc_15 {a0 a1 a2 a3 a4 a5 a6 a7 a8 a9 a10 a11 a12 a13 a14 : Value} {x : Int32} {v : Int} : ev E M (.iinc 15 v :: c) (a0 :: a1 :: a2 :: a3 :: a4 :: a5 :: a6 :: a7 :: a8 :: a9 :: a10 :: a11 :: a12 :: a13 :: a14 :: .int x :: L) S h = ev E M c (a0 :: a1 :: a2 :: a3 :: a4 :: a5 :: a6 :: a7 :: a8 :: a9 :: a10 :: a11 :: a12 :: a13 :: am_kp a14 :: .int (x + Int32.ofInt v) :: L) S h := ev_go rfl
theorem e_iload_16 {a0 a1 a2 a3 a4 a5 a6 a7 a8 a9 a10 a11 a12 a13 a14 a15 : Value} {x : Int32} : ev E M (.iload 16 :: c) (a0 :: a1 :: a2 :: a3 :: a4 :: a5 :: a6 :: a7 :: a8 :: a9 :: a10 :: a11 :: a12 :: a13 :: a14 :: a15 :: .int x :: L) S h = ev E M c (a0 :: a1 :: a2 :: a3 :: a4 :: a5 :: a6 :: a7 :: a8 :: a9 :: a10 :: a11 :: a12 :: a13 :: a14 :: a15 :: .int x :: L) (.int x :: S) h := ev_go rfl
theorem e_lload_16 {a0 a1 a2 a3 a4 a5 a6 a7 a8 a9 a10 a11 a12 a13 a14 a15 : Value} {x : Int64} : ev E M (.lload 16 :: c) (a0 :: a1 :: a2 :: a3 :: a4 :: a5 :: a6 :: a7 :: a8 :: a9 :: a10 :: a11 :: a12 :: a13 :: a14 :: a15 :: .long x :: L) S h = ev E M c (a0 :: a1 :: a2 :: a3 :: a4 :: a5 :: a6 :: a7 :: a8 :: a9 :: a10 :: a11 :: a12 :: a13 :: a14 :: a15 :: .long x :: L) (.long x :: S) h := ev_go rfl
theorem e_aloadr_16 {a0 a1 a2 a3 a4 a5 a6 a7 a8 a9 a10 a11 a12 a13 a14 a15 : Value} {x : Nat} : ev E M (.aload 16 :: c) (a0 :: a1 :: a2 :: a3 :: a4 :: a5 :: a6 :: a7 :: a8 :: a9 :: a10 :: a11 :: a12 :: a13 :: a14 :: a15 :: .ref x :: L) S h = ev E M c (a0 :: a1 :: a2 :: a3 :: a4 :: a5 :: a6 :: a7 :: a8 :: a9 :: a10 :: a11 :: a12 :: a13 :: a14 :: a15 :: .ref x :: L) (.ref x :: S) h := ev_go rfl
theorem e_aloadx_16 {a0 a1 a2 a3 a4 a5 a6 a7 a8 a9 a10 a11 a12 a13 a14 a15 : Value} {x : Nat} : ev E M (.aload 16 :: c) (a0 :: a1 :: a2 :: a3 :: a4 :: a5 :: a6 :: a7 :: a8 :: a9 :: a10 :: a11 :: a12 :: a13 :: a14 :: a15 :: .retAddr x :: L) S h = ev E M c (a0 :: a1 :: a2 :: a3 :: a4 :: a5 :: a6 :: a7 :: a8 :: a9 :: a10 :: a11 :: a12 :: a13 :: a14 :: a15 :: .retAddr x :: L) (.retAddr x :: S) h := ev_go rfl
theorem e_istore_16 {a0 a1 a2 a3 a4 a5 a6 a7 a8 a9 a10 a11 a12 a13 a14 a15 : Value} {b : Value} {x : Int32} : ev E M (.istore 16 :: c) (a0 :: a1 :: a2 :: a3 :: a4 :: a5 :: a6 :: a7 :: a8 :: a9 :: a10 :: a11 :: a12 :: a13 :: a14 :: a15 :: b :: L) (.int x :: S) h = ev E M c (a0 :: a1 :: a2 :: a3 :: a4 :: a5 :: a6 :: a7 :: a8 :: a9 :: a10 :: a11 :: a12 :: a13 :: a14 :: am_kp a15 :: .int x :: L) S h := ev_go (by simp only [am_step, List.length_cons]; rw [if_pos (by omega)]; rfl)
theorem e_astore_16 {a0 a1 a2 a3 a4 a5 a6 a7 a8 a9 a10 a11 a12 a13 a14 a15 : Value} {b : Value} {x : Nat} : ev E M (.astore 16 :: c) (a0 :: a1 :: a2 :: a3 :: a4 :: a5 :: a6 :: a7 :: a8 :: a9 :: a10 :: a11 :: a12 :: a13 :: a14 :: a15 :: b :: L) (.ref x :: S) h = ev E M c (a0 :: a1 :: a2 :: a3 :: a4 :: a5 :: a6 :: a7 :: a8 :: a9 :: a10 :: a11 :: a12 :: a13 :: a14 :: am_kp a15 :: .ref x :: L) S h := ev_go (by simp only [am_step, List.length_cons]; rw [if_pos (by omega)]; rfl)
theorem e_lstore_16 {a0 a1 a2 a3 a4 a5 a6 a7 a8 a9 a10 a11 a12 a13 a14 a15 : Value} {b b2 : Value} {x : Int64} : ev E M (.lstore 16 :: c) (a0 :: a1 :: a2 :: a3 :: a4 :: a5 :: a6 :: a7 :: a8 :: a9 :: a10 :: a11 :: a12 :: a13 :: a14 :: a15 :: b :: b2 :: L) (.long x :: S) h = ev E M c (a0 :: a1 :: a2 :: a3 :: a4 :: a5 :: a6 :: a7 :: a8 :: a9 :: a10 :: a11 :: a12 :: a13 :: a14 :: am_kp a15 :: .long x :: am_dm :: L) S h := ev_go (by simp only [am_step, List.length_cons]; rw [if_pos (by omega)]; rfl)
theorem e_iinc_16 {a0 a1 a2 a3 a4 a5 a6 a7 a8 a9 a10 a11 a12 a13 a14 a15 : Value} {x : Int32} {v : Int} : ev E M (.iinc 16 v :: c) (a0 :: a1 :: a2 :: a3 :: a4 :: a5 :: a6 :: a7 :: a8 :: a9 :: a10 :: a11 :: a12 :: a13 :: a14 :: a15 :: .int x :: L) S h = ev E M c (a0 :: a1 :: a2 :: a3 :: a4 :: a5 :: a6 :: a7 :: a8 :: a9 :: a10 :: a11 :: a12 :: a13 :: a14 :: am_kp a15 :: .int (x + Int32.ofInt v) :: L) S h := ev_go rfl
theorem e_iload_17 {a0 a1 a2 a3 a4 a5 a6 a7 a8 a9 a10 a11 a12 a13 a14 a15 a16 : Value} {x : Int32} : ev E M (.iload 17 :: c) (a0 :: a1 :: a2 :: a3 :: a4 :: a5 :: a6 :: a7 :: a8 :: a9 :: a10 :: a11 :: a12 :: a13 :: a14 :: a15 :: a16 :: .int x :: L) S h = ev E M c (a0 :: a1 :: a2 :: a3 :: a4 :: a5 :: a6 :: a7 :: a8 :: a9 :: a10 :: a11 :: a12 :: a13 :: a14 :: a15 :: a16 :: .int x :: L) (.int x :: S) h := ev_go rfl
theorem e_lload_17 {a0 a1 a2 a3 a4 a5 a6 a7 a8 a9 a10 a11 a12 a13 a14 a15 a16 : Value} {x : Int64} : ev E M (.lload 17 :: c) (a0 :: a1 :: a2 :: a3 :: a4 :: a5 :: a6 :: a7 :: a8 :: a9 :: a10 :: a11 :: a12 :: a13 :: a14 :: a15 :: a16 :: .long x :: L) S h = ev E M c (a0 :: a1 :: a2 :: a3 :: a4 :: a5 :: a6 :: a7 :: a8 :: a9 :: a10 :: a11 :: a12 :: a13 :: a14 :: a15 :: a16 :: .long x :: L) (.long x :: S) h := ev_go rfl
theorem e_aloadr_17 {a0 a1 a2 a3 a4 a5 a6 a7 a8 a9 a10 a11 a12 a13 a14 a15 a16 : Value} {x : Nat} : ev E M (.aload 17 :: c) (a0 :: a1 :: a2 :: a3 :: a4 :: a5 :: a6 :: a7 :: a8 :: a9 :: a10 :: a11 :: a12 :: a13 :: a14 :: a15 :: a16 :: .ref x :: L) S h = ev E M c (a0 :: a1 :: a2 :: a3 :: a4 :: a5 :: a6 :: a7 :: a8 :: a9 :: a10 :: a11 :: a12 :: a13 :: a14 :: a15 :: a16 :: .ref x :: L) (.ref x :: S) h := ev_go rfl
theorem e_aloadx_17 {a0 a1 a2 a3 a4 a5 a6 a7 a8 a9 a10 a11 a12 a13 a14 a15 a16 : Value} {x : Nat} : ev E M (.aload 17 :: c) (a0 :: a1 :: a2 :: a3 :: a4 :: a5 :: a6 :: a7 :: a8 :: a9 :: a10 :: a11 :: a12 :: a13 :: a14 :: a15 :: a16 :: .retAddr x :: L) S h = ev E M c (a0 :: a1 :: a2 :: a3 :: a4 :: a5 :: a6 :: a7 :: a8 :: a9 :: a10 :: a11 :: a12 :: a13 :: a14 :: a15 :: a16 :: .retAddr x :: L) (.retAddr x :: S) h := ev_go rfl
theorem e_istore_17 {a0 a1 a2 a3 a4 a5 a6 a7 a8 a9 a10 a11 a12 a13 a14 a15 a16 : Value} {b : Value} {x : Int32} : ev E M (.istore 17 :: c) (a0 :: a1 :: a2 :: a3 :: a4 :: a5 :: a6 :: a7 :: a8 :: a9 :: a10 :: a11 :: a12 :: a13 :: a14 :: a15 :: a16 :: b :: L) (.int x :: S) h = ev E M c (a0 :: a1 :: a2 :: a3 :: a4 :: a5 :: a6 :: a7 :: a8 :: a9 :: a10 :: a11 :: a12 :: a13 :: a14 :: a15 :: am_kp a16 :: .int x :: L) S h := ev_go (by simp only [am_step, List.length_cons]; rw [if_pos (by omega)]; rfl)
theorem e_astore_17 {a0 a1 a2 a3 a4 a5 a6 a7 a8 a9 a10 a11 a12 a13 a14 a15 a16 : Value} {b : Value} {x : Nat} : ev E M (.astore 17 :: c) (a0 :: a1 :: a2 :: a3 :: a4 :: a5 :: a6 :: a7 :: a8 :: a9 :: a10 :: a11 :: a12 :: a13 :: a14 :: a15 :: a16 :: b :: L) (.ref x :: S) h = ev E M c (a0 :: a1 :: a2 :: a3 :: a4 :: a5 :: a6 :: a7 :: a8 :: a9 :: a10 :: a11 :: a12 :: a13 :: a14 :: a15 :: am_kp a16 :: .ref x :: L) S h := ev_go (by simp only [am_step, List.length_cons]; rw [if_pos (by omega)]; rfl)
theorem e_lstore_17 {a0 a1 a2 a3 a4 a5 a6 a7 a8 a9 a10 a11 a12 a13 a14 a15 a16 : Value} {b b2 : Value} {x : Int64} : ev E M (.lstore 17 :: c) (a0 :: a1 :: a2 :: a3 :: a4 :: a5 :: a6 :: a7 :: a8 :: a9 :: a10 :: a11 :: a12 :: a13 :: a14 :: a15 :: a16 :: b :: b2 :: L) (.long x :: S) h = ev E M c (a0 :: a1 :: a2 :: a3 :: a4 :: a5 :: a6 :: a7 :: a8 :: a9 :: a10 :: a11 :: a12 :: a13 :: a14 :: a15 :: am_kp a16 :: .long x :: am_dm :: L) S h := ev_go (by simp only [am_step, List.length_cons]; rw [if_pos (by omega)]; rfl)
theorem e_iinc_17 {a0 a1 a2 a3 a4 a5 a6 a7 a8 a9 a10 a11 a12 a13 a14 a15 a16 : Value} {x : Int32} {v : Int} : ev E M (.iinc 17 v :: c) (a0 :: a1 :: a2 :: a3 :: a4 :: a5 :: a6 :: a7 :: a8 :: a9 :: a10 :: a11 :: a12 :: a13 :: a14 :: a15 :: a16 :: .int x :: L) S h = ev E M c (a0 :: a1 :: a2 :: a3 :: a4 :: a5 :: a6 :: a7 :: a8 :: a9 :: a10 :: a11 :: a12 :: a13 :: a14 :: a15 :: am_kp a16 :: .int (x + Int32.ofInt v) :: L) S h := ev_go rfl
theorem e_kpi {x : Int32} : am_kp (.int x) = .int x := rfl
theorem e_kpr {x : Nat} : am_kp (.ref x) = .ref x := rfl
theorem e_kpx {x : Nat} : am_kp (.retAddr x) = .retAddr x := rfl
theorem e_kpl {x : Int64} : am_kp (.long x) = am_dm := rfl
theorem e_kpd : am_kp am_dm = am_dm := rfl
theorem e_iadd {x y : Int32} : ev E M (.iadd :: c) L (.int y :: .int x :: S) h = ev E M c L (.int (x + y) :: S) h := ev_go rfl
theorem e_isub {x y : Int32} : ev E M (.isub :: c) L (.int y :: .int x :: S) h = ev E M c L (.int (x - y) :: S) h := ev_go rfl
theorem e_imul {x y : Int32} : ev E M (.imul :: c) L (.int y :: .int x :: S) h = ev E M c L (.int (x * y) :: S) h := ev_go rfl
theorem e_iand {x y : Int32} : ev E M (.iand :: c) L (.int y :: .int x :: S) h = ev E M c L (.int (x &&& y) :: S) h := ev_go rfl
theorem e_ior {x y : Int32} : ev E M (.ior :: c) L (.int y :: .int x :: S) h = ev E M c L (.int (x ||| y) :: S) h := ev_go rfl
theorem e_ixor {x y : Int32} : ev E M (.ixor :: c) L (.int y :: .int x :: S) h = ev E M c L (.int (x ^^^ y) :: S) h := ev_go rfl
theorem e_ishl {x y : Int32} : ev E M (.ishl :: c) L (.int y :: .int x :: S) h = ev E M c L (.int (x <<< (y &&& 31)) :: S) h := ev_go rfl
theorem e_ishr {x y : Int32} : ev E M (.ishr :: c) L (.int y :: .int x :: S) h = ev E M c L (.int (x >>> (y &&& 31)) :: S) h := ev_go rfl
theorem e_idiv {x y : Int32} (hy : ¬ y = 0) : ev E M (.idiv :: c) L (.int y :: .int x :: S) h = ev E M c L (.int (x / y) :: S) h := ev_go (by simp only [am_step, if_neg hy]; rfl)
theorem e_irem {x y : Int32} (hy : ¬ y = 0) : ev E M (.irem :: c) L (.int y :: .int x :: S) h = ev E M c L (.int (x - x / y * y) :: S) h := ev_go (by simp only [am_step, if_neg hy]; rfl)
theorem e_ldiv {x y : Int64} (hy : ¬ y = 0) : ev E M (.ldiv :: c) L (.long y :: .long x :: S) h = ev E M c L (.long (x / y) :: S) h := ev_go (by simp only [am_step, if_neg hy]; rfl)
theorem e_lrem {x y : Int64} (hy : ¬ y = 0) : ev E M (.lrem :: c) L (.long y :: .long x :: S) h = ev E M c L (.long (x - x / y * y) :: S) h := ev_go (by simp only [am_step, if_neg hy]; rfl)
theorem e_ladd {x y : Int64} : ev E M (.ladd :: c) L (.long y :: .long x :: S) h = ev E M c L (.long (x + y) :: S) h := ev_go rfl
theorem e_lsub {x y : Int64} : ev E M (.lsub :: c) L (.long y :: .long x :: S) h = ev E M c L (.long (x - y) :: S) h := ev_go rfl
theorem e_lmul {x y : Int64} : ev E M (.lmul :: c) L (.long y :: .long x :: S) h = ev E M c L (.long (x * y) :: S) h := ev_go rfl
theorem e_lcmp {x y : Int64} : ev E M (.lcmp :: c) L (.long y :: .long x :: S) h = ev E M c L (.int (lg_cmp x y) :: S) h := ev_go rfl
theorem e_ineg {x : Int32} : ev E M (.ineg :: c) L (.int x :: S) h = ev E M c L (.int (-x) :: S) h := ev_go rfl
theorem e_lneg {x : Int64} : ev E M (.lneg :: c) L (.long x :: S) h = ev E M c L (.long (-x) :: S) h := ev_go rfl
theorem e_i2l {x : Int32} : ev E M (.i2l :: c) L (.int x :: S) h = ev E M c L (.long x.toInt64 :: S) h := ev_go rfl
theorem e_i2b {x : Int32} : ev E M (.i2b :: c) L (.int x :: S) h = ev E M c L (.int x.toInt8.toInt32 :: S) h := ev_go rfl
theorem e_i2s {x : Int32} : ev E M (.i2s :: c) L (.int x :: S) h = ev E M c L (.int x.toInt16.toInt32 :: S) h := ev_go rfl
theorem e_dupr {x : Nat} : ev E M (.dup :: c) L (.ref x :: S) h = ev E M c L (.ref x :: .ref x :: S) h := ev_go rfl
theorem e_dupi {x : Int32} : ev E M (.dup :: c) L (.int x :: S) h = ev E M c L (.int x :: .int x :: S) h := ev_go rfl
theorem e_dup2 {x : Nat} {y : Int32} : ev E M (.dup2 :: c) L (.int y :: .ref x :: S) h = ev E M c L (.int y :: .ref x :: .int y :: .ref x :: S) h := ev_go rfl
theorem e_pop {x : Int32} : ev E M (.pop :: c) L (.int x :: S) h = ev E M c L S h := ev_go rfl
theorem e_goto {t : Int} : ev E M (.goto t :: c) L S h = ev E M (am_B M t.toNat) L S h := ev_go rfl
theorem e_jsr {t : Int} : ev E M (.jsr t :: c) L S h = ev E M (am_B M t.toNat) L S h := ev_go rfl
theorem e_icmp_eq {x y : Int32} {t : Int} : ev E M (.if_icmp .eq t :: c) L (.int y :: .int x :: S) h = if x = y then ev E M (am_B M t.toNat) L S h else ev E M c L S h := by
  by_cases hq : x = y
  · rw [if_pos hq]; exact ev_go (by simp only [am_step, am_cond, decide_eq_true hq]; rfl)
  · rw [if_neg hq]; exact ev_go (by simp only [am_step, am_cond, decide_eq_false hq]; rfl)
theorem e_icmp_ne {x y : Int32} {t : Int} : ev E M (.if_icmp .ne t :: c) L (.int y :: .int x :: S) h = if ¬ x = y then ev E M (am_B M t.toNat) L S h else ev E M c L S h := by
  by_cases hq : ¬ x = y
  · rw [if_pos hq]; exact ev_go (by simp only [am_step, am_cond, decide_eq_true hq]; rfl)
  · rw [if_neg hq]; exact ev_go (by simp only [am_step, am_cond, decide_eq_false hq]; rfl)
theorem e_icmp_lt {x y : Int32} {t : Int} : ev E M (.if_icmp .lt t :: c) L (.int y :: .int x :: S) h = if x < y then ev E M (am_B M t.toNat) L S h else ev E M c L S h := by
  by_cases hq : x < y
  · rw [if_pos hq]; exact ev_go (by simp only [am_step, am_cond, decide_eq_true hq]; rfl)
  · rw [if_neg hq]; exact ev_go (by simp only [am_step, am_cond, decide_eq_false hq]; rfl)
theorem e_icmp_ge {x y : Int32} {t : Int} : ev E M (.if_icmp .ge t :: c) L (.int y :: .int x :: S) h = if y ≤ x then ev E M (am_B M t.toNat) L S h else ev E M c L S h := by
  by_cases hq : y ≤ x
  · rw [if_pos hq]; exact ev_go (by simp only [am_step, am_cond, decide_eq_true hq]; rfl)
  · rw [if_neg hq]; exact ev_go (by simp only [am_step, am_cond, decide_eq_false hq]; rfl)
theorem e_icmp_gt {x y : Int32} {t : Int} : ev E M (.if_icmp .gt t :: c) L (.int y :: .int x :: S) h = if y < x then ev E M (am_B M t.toNat) L S h else ev E M c L S h := by
  by_cases hq : y < x
  · rw [if_pos hq]; exact ev_go (by simp only [am_step, am_cond, decide_eq_true hq]; rfl)
  · rw [if_neg hq]; exact ev_go (by simp only [am_step, am_cond, decide_eq_false hq]; rfl)
theorem e_icmp_le {x y : Int32} {t : Int} : ev E M (.if_icmp .le t :: c) L (.int y :: .int x :: S) h = if x ≤ y then ev E M (am_B M t.toNat) L S h else ev E M c L S h := by
  by_cases hq : x ≤ y
  · rw [if_pos hq]; exact ev_go (by simp only [am_step, am_cond, decide_eq_true hq]; rfl)
  · rw [if_neg hq]; exact ev_go (by simp only [am_step, am_cond, decide_eq_false hq]; rfl)
theorem e_if_eq {x : Int32} {t : Int} : ev E M (.ifCond .eq t :: c) L (.int x :: S) h = if x = 0 then ev E M (am_B M t.toNat) L S h else ev E M c L S h := by
  by_cases hq : x = 0
  · rw [if_pos hq]; exact ev_go (by simp only [am_step, am_cond, decide_eq_true hq]; rfl)
  · rw [if_neg hq]; exact ev_go (by simp only [am_step, am_cond, decide_eq_false hq]; rfl)
theorem e_if_ne {x : Int32} {t : Int} : ev E M (.ifCond .ne t :: c) L (.int x :: S) h = if ¬ x = 0 then ev E M (am_B M t.toNat) L S h else ev E M c L S h := by
  by_cases hq : ¬ x = 0
  · rw [if_pos hq]; exact ev_go (by simp only [am_step, am_cond, decide_eq_true hq]; rfl)
  · rw [if_neg hq]; exact ev_go (by simp only [am_step, am_cond, decide_eq_false hq]; rfl)
theorem e_if_lt {x : Int32} {t : Int} : ev E M (.ifCond .lt t :: c) L (.int x :: S) h = if x < 0 then ev E M (am_B M t.toNat) L S h else ev E M c L S h := by
  by_cases hq : x < 0
  · rw [if_pos hq]; exact ev_go (by simp only [am_step, am_cond, decide_eq_true hq]; rfl)
  · rw [if_neg hq]; exact ev_go (by simp only [am_step, am_cond, decide_eq_false hq]; rfl)
theorem e_if_ge {x : Int32} {t : Int} : ev E M (.ifCond .ge t :: c) L (.int x :: S) h = if 0 ≤ x then ev E M (am_B M t.toNat) L S h else ev E M c L S h := by
  by_cases hq : 0 ≤ x
  · rw [if_pos hq]; exact ev_go (by simp only [am_step, am_cond, decide_eq_true hq]; rfl)
  · rw [if_neg hq]; exact ev_go (by simp only [am_step, am_cond, decide_eq_false hq]; rfl)
theorem e_if_gt {x : Int32} {t : Int} : ev E M (.ifCond .gt t :: c) L (.int x :: S) h = if 0 < x then ev E M (am_B M t.toNat) L S h else ev E M c L S h := by
  by_cases hq : 0 < x
  · rw [if_pos hq]; exact ev_go (by simp only [am_step, am_cond, decide_eq_true hq]; rfl)
  · rw [if_neg hq]; exact ev_go (by simp only [am_step, am_cond, decide_eq_false hq]; rfl)
theorem e_if_le {x : Int32} {t : Int} : ev E M (.ifCond .le t :: c) L (.int x :: S) h = if x ≤ 0 then ev E M (am_B M t.toNat) L S h else ev E M c L S h := by
  by_cases hq : x ≤ 0
  · rw [if_pos hq]; exact ev_go (by simp only [am_step, am_cond, decide_eq_true hq]; rfl)
  · rw [if_neg hq]; exact ev_go (by simp only [am_step, am_cond, decide_eq_false hq]; rfl)
theorem e_tsw {d lo hi : Int} {os : Array Int} {x : Int32} : ev E M (.tableswitch d lo hi os :: c) L (.int x :: S) h = ev E M (am_B M (am_tsw d lo hi os x)) L S h := ev_go rfl
theorem e_lsw {d : Int} {ps : Array (Int × Int)} {x : Int32} : ev E M (.lookupswitch d ps :: c) L (.int x :: S) h = ev E M (am_B M (am_lsw d ps x)) L S h := ev_go rfl
theorem e_gets {x : Nat} : ev E M (.getstatic x :: c) L S h = ev E M c L (.retAddr x :: S) h := ev_go rfl
theorem e_fadd_0 {x y : Int32} : ev E M (.fadd :: c) L (.int y :: .int x :: []) h = ev E M c L (.int (if x < y then y else x) :: []) h := ev_go rfl
theorem e_fadd_1 {x y : Int32} {s0 : Value} : ev E M (.fadd :: c) L (.int y :: .int x :: [s0]) h = ev E M c L (.int (if x < y then y else x) :: [s0]) h := ev_go rfl
theorem e_fadd_2 {x y : Int32} {s0 s1 : Value} : ev E M (.fadd :: c) L (.int y :: .int x :: [s0, s1]) h = ev E M c L (.int (if x < y then y else x) :: [s0, s1]) h := ev_go rfl
theorem e_fadd_3 {x y : Int32} {s0 s1 s2 : Value} : ev E M (.fadd :: c) L (.int y :: .int x :: [s0, s1, s2]) h = ev E M c L (.int (if x < y then y else x) :: [s0, s1, s2]) h := ev_go rfl
theorem e_fadd_4 {x y : Int32} {s0 s1 s2 s3 : Value} : ev E M (.fadd :: c) L (.int y :: .int x :: [s0, s1, s2, s3]) h = ev E M c L (.int (if x < y then y else x) :: [s0, s1, s2, s3]) h := ev_go rfl
theorem e_fsub_0 {x y : Int32} : ev E M (.fsub :: c) L (.int y :: .int x :: []) h = ev E M c L (.int (if y < x then y else x) :: []) h := ev_go rfl
theorem e_fsub_1 {x y : Int32} {s0 : Value} : ev E M (.fsub :: c) L (.int y :: .int x :: [s0]) h = ev E M c L (.int (if y < x then y else x) :: [s0]) h := ev_go rfl
theorem e_fsub_2 {x y : Int32} {s0 s1 : Value} : ev E M (.fsub :: c) L (.int y :: .int x :: [s0, s1]) h = ev E M c L (.int (if y < x then y else x) :: [s0, s1]) h := ev_go rfl
theorem e_fsub_3 {x y : Int32} {s0 s1 s2 : Value} : ev E M (.fsub :: c) L (.int y :: .int x :: [s0, s1, s2]) h = ev E M c L (.int (if y < x then y else x) :: [s0, s1, s2]) h := ev_go rfl
theorem e_fsub_4 {x y : Int32} {s0 s1 s2 s3 : Value} : ev E M (.fsub :: c) L (.int y :: .int x :: [s0, s1, s2, s3]) h = ev E M c L (.int (if y < x then y else x) :: [s0, s1, s2, s3]) h := ev_go rfl
theorem e_fmul_0 {x : Int32} : ev E M (.fmul :: c) L (.int x :: []) h = ev E M c L (.int (if 0 ≤ x then x else 0 - x) :: []) h := ev_go rfl
theorem e_fmul_1 {x : Int32} {s0 : Value} : ev E M (.fmul :: c) L (.int x :: [s0]) h = ev E M c L (.int (if 0 ≤ x then x else 0 - x) :: [s0]) h := ev_go rfl
theorem e_fmul_2 {x : Int32} {s0 s1 : Value} : ev E M (.fmul :: c) L (.int x :: [s0, s1]) h = ev E M c L (.int (if 0 ≤ x then x else 0 - x) :: [s0, s1]) h := ev_go rfl
theorem e_fmul_3 {x : Int32} {s0 s1 s2 : Value} : ev E M (.fmul :: c) L (.int x :: [s0, s1, s2]) h = ev E M c L (.int (if 0 ≤ x then x else 0 - x) :: [s0, s1, s2]) h := ev_go rfl
theorem e_fmul_4 {x : Int32} {s0 s1 s2 s3 : Value} : ev E M (.fmul :: c) L (.int x :: [s0, s1, s2, s3]) h = ev E M c L (.int (if 0 ≤ x then x else 0 - x) :: [s0, s1, s2, s3]) h := ev_go rfl
theorem e_fdiv_0 {x : Int64} : ev E M (.fdiv :: c) L (.long x :: []) h = ev E M c L (.long (if 0 < x then x else -x) :: []) h := ev_go rfl
theorem e_fdiv_1 {x : Int64} {s0 : Value} : ev E M (.fdiv :: c) L (.long x :: [s0]) h = ev E M c L (.long (if 0 < x then x else -x) :: [s0]) h := ev_go rfl
theorem e_fdiv_2 {x : Int64} {s0 s1 : Value} : ev E M (.fdiv :: c) L (.long x :: [s0, s1]) h = ev E M c L (.long (if 0 < x then x else -x) :: [s0, s1]) h := ev_go rfl
theorem e_fdiv_3 {x : Int64} {s0 s1 s2 : Value} : ev E M (.fdiv :: c) L (.long x :: [s0, s1, s2]) h = ev E M c L (.long (if 0 < x then x else -x) :: [s0, s1, s2]) h := ev_go rfl
theorem e_fdiv_4 {x : Int64} {s0 s1 s2 s3 : Value} : ev E M (.fdiv :: c) L (.long x :: [s0, s1, s2, s3]) h = ev E M c L (.long (if 0 < x then x else -x) :: [s0, s1, s2, s3]) h := ev_go rfl
theorem e_iald {k n : Nat} {i : Int32} (hk : h.1[k]? = some (.inr (0, n))) (hi : am_inB i n = true) : ev E M (.iaload :: c) L (.int i :: .ref k :: S) h = ev E M c L (.int (h.2.2.1 k i.toNatClampNeg) :: S) h := ev_go (by simp only [am_step, am_row, hk, hi]; rfl)
theorem e_bald {k n : Nat} {i : Int32} (hk : h.1[k]? = some (.inr (1, n))) (hi : am_inB i n = true) : ev E M (.baload :: c) L (.int i :: .ref k :: S) h = ev E M c L (.int (h.2.2.1 k i.toNatClampNeg) :: S) h := ev_go (by simp only [am_step, am_row, hk, hi]; rfl)
theorem e_lald {k n : Nat} {i : Int32} (hk : h.1[k]? = some (.inr (2, n))) (hi : am_inB i n = true) : ev E M (.laload :: c) L (.int i :: .ref k :: S) h = ev E M c L (.long (h.2.2.2 k i.toNatClampNeg) :: S) h := ev_go (by simp only [am_step, am_row, hk, hi]; rfl)
theorem e_iast {k n : Nat} {i v : Int32} (hk : h.1[k]? = some (.inr (0, n))) (hi : am_inB i n = true) : ev E M (.iastore :: c) L (.int v :: .int i :: .ref k :: S) h = ev E M c L S (h.1, h.2.1, am_up h.2.2.1 k i.toNatClampNeg v, h.2.2.2) := ev_go (by simp only [am_step, am_row, hk, hi]; rfl)
theorem e_bast {k n : Nat} {i v : Int32} (hk : h.1[k]? = some (.inr (1, n))) (hi : am_inB i n = true) (hv : v = 0 ∨ v = 1) : ev E M (.bastore :: c) L (.int v :: .int i :: .ref k :: S) h = ev E M c L S (h.1, h.2.1, am_up h.2.2.1 k i.toNatClampNeg v, h.2.2.2) := ev_go (by
  have hr : am_row h k 1 i = true := by simp only [am_row, hk, hi]; rfl
  simp only [am_step]
  rw [if_pos ⟨hr, hv⟩]
  rfl)
theorem e_last {k n : Nat} {i : Int32} {v : Int64} (hk : h.1[k]? = some (.inr (2, n))) (hi : am_inB i n = true) : ev E M (.lastore :: c) L (.long v :: .int i :: .ref k :: S) h = ev E M c L S (h.1, h.2.1, h.2.2.1, am_up h.2.2.2 k i.toNatClampNeg v) := ev_go (by simp only [am_step, am_row, hk, hi]; rfl)
theorem e_aald {k t n : Nat} {i : Int32} (hk : h.1[k]? = some (.inr (t, n))) (ht : 3 ≤ t) (ht2 : t < 7) (hi : am_inB i n = true) : ev E M (.aaload :: c) L (.int i :: .ref k :: S) h = ev E M c L (va_rf (h.2.1 k i.toNatClampNeg) :: S) h := ev_go (by
  have hr : am_rowR h k i = true := by simp only [am_rowR, hk, hi, decide_eq_true ht, decide_eq_true ht2]; rfl
  simp only [am_step, hr]
  rfl)
theorem e_xld {k : Nat} {i : Int32} (hk : k < 3) (hi : am_inB i (E k).1 = true) : ev E M (.iaload :: c) L (.int i :: .retAddr k :: S) h = ev E M c L (.int ((E k).2 i.toNatClampNeg) :: S) h := ev_go (by
  simp only [am_step]
  rw [if_pos ⟨hk, hi⟩]
  rfl)
theorem e_xlen  : ev E M (.arraylength :: c) L (.retAddr 2 :: S) h = ev E M c L (.int (Int32.ofNat (E 2).1) :: S) h := ev_go rfl
theorem e_iret {x : Int32} : ev E M (.ireturn :: c) L [.int x] h = some (some (.int x), h) := ev_ret rfl
theorem e_zret0 : ev E M (.areturn :: c) L [.int 0] h = some (some (.int 0), h) := ev_ret rfl
theorem e_zret1 : ev E M (.areturn :: c) L [.int 1] h = some (some (.int 1), h) := ev_ret rfl
theorem e_zret {x : Int32} (hx : x = 0 ∨ x = 1) : ev E M (.areturn :: c) L [.int x] h = some (some (.int x), h) := ev_ret (by simp only [am_step]; rw [if_pos hx])
theorem e_lret {x : Int64} : ev E M (.lreturn :: c) L [.long x] h = some (some (.long x), h) := ev_ret rfl
theorem e_ret : ev E M (.return_ :: c) L [] h = some (none, h) := ev_ret rfl
end Ev
