/-! THE RUN -/
theorem am_step_lay {E : aE} {M : Nat} {c0 c' : List Instr} {L S L' S' : List Value} {h h1 : aH} (hs : am_step E M c0 L S h = some (.inl (c', L', S', h1))) : h1.1 = h.1 ∨ ∃ q, h1 = am_lay h q := by
  cases c0 with
  | nil => cases hs
  | cons i c =>
    cases i
    all_goals first
      | (cases hs; done)
      | (simp only [am_step, am_push] at hs
         repeat' split at hs
         all_goals first
           | (cases hs; done)
           | (cases hs; exact Or.inl rfl)
           | (cases hs; exact Or.inr ⟨_, rfl⟩)
           | (rename_i hp; cases hs; exact Or.inl (am_pf_lay hp)))
theorem am_step_ret {E : aE} {M : Nat} {c0 : List Instr} {L S : List Value} {h h1 : aH} {v : Option Value} (hs : am_step E M c0 L S h = some (.inr (.inl (v, h1)))) : h1 = h ∧ S = v.toList ∧ ((∃ c x, c0 = .ireturn :: c ∧ v = some (.int x)) ∨ (∃ c x, c0 = .areturn :: c ∧ v = some (.int x) ∧ (x = 0 ∨ x = 1)) ∨ (∃ c x, c0 = .lreturn :: c ∧ v = some (.long x)) ∨ (∃ c, c0 = .return_ :: c ∧ v = none)) := by
  cases c0 with
  | nil => cases hs
  | cons i c =>
    cases i
    case ireturn =>
      simp only [am_step] at hs
      split at hs
      · cases hs; exact ⟨rfl, rfl, Or.inl ⟨_, _, rfl, rfl⟩⟩
      · cases hs
    case areturn =>
      simp only [am_step] at hs
      split at hs
      · split at hs
        · rename_i hx
          cases hs; exact ⟨rfl, rfl, Or.inr (Or.inl ⟨_, _, rfl, rfl, hx⟩)⟩
        · cases hs
      · cases hs
    case lreturn =>
      simp only [am_step] at hs
      split at hs
      · cases hs; exact ⟨rfl, rfl, Or.inr (Or.inr (Or.inl ⟨_, _, rfl, rfl⟩))⟩
      · cases hs
    case return_ =>
      simp only [am_step] at hs
      split at hs
      · cases hs; exact ⟨rfl, rfl, Or.inr (Or.inr (Or.inr ⟨_, rfl, rfl⟩))⟩
      · cases hs
    all_goals first
      | (cases hs; done)
      | (exfalso
         simp only [am_step, am_push] at hs
         repeat' split at hs
         all_goals (cases hs; done))
theorem am_step_call {E : aE} {M k : Nat} {c0 c' : List Instr} {L S L' S' as : List Value} {h h1 : aH} (hs : am_step E M c0 L S h = some (.inr (.inr (k, as, (c', L', S', h1))))) : c0 = .invokevirtual k :: c' ∧ L' = L ∧ h1 = h ∧ S' = S.drop (am_na k) ∧ as = (S.take (am_na k)).reverse ∧ am_na k ≤ S.length ∧ S.length ≤ am_na k + 4 ∧ (am_loc as).length ≤ am_mL k ∧ am_recv h k as = true := by
  cases c0 with
  | nil => cases hs
  | cons i c =>
    cases i
    case invokevirtual j =>
      simp only [am_step] at hs
      split at hs
      · rename_i hx
        cases hs
        exact ⟨rfl, rfl, rfl, rfl, rfl, hx.1, hx.2.1, hx.2.2.1, hx.2.2.2⟩
      · cases hs
    all_goals first
      | (cases hs; done)
      | (exfalso
         simp only [am_step, am_push] at hs
         repeat' split at hs
         all_goals (cases hs; done))
theorem am_run_succ {E : aE} {n M : Nat} {c : List Instr} {L S : List Value} {h : aH} {r : aR} (hr : am_run E (n + 1) M c L S h = some r) :
    (∃ c' L' S' h1, am_step E M c L S h = some (.inl (c', L', S', h1)) ∧ am_run E n M c' L' S' h1 = some r) ∨ am_step E M c L S h = some (.inr (.inl r)) ∨
    (∃ k as c' L' S' h1 v h2, am_step E M c L S h = some (.inr (.inr (k, as, (c', L', S', h1)))) ∧ am_run E n k (am_B k 0) (am_ent k as) [] h1 = some (v, h2) ∧ am_run E n M c' L' (v.toList ++ S') h2 = some r) := by
  rw [am_run] at hr
  split at hr
  · cases hr
  · rename_i hs
    exact Or.inl ⟨_, _, _, _, hs, hr⟩
  · rename_i hs
    cases hr
    exact Or.inr (Or.inl hs)
  · rename_i hs
    split at hr
    · cases hr
    · rename_i hq
      exact Or.inr (Or.inr ⟨_, _, _, _, _, _, _, _, hs, hq, hr⟩)
theorem am_lay_mono (h : aH) (q : Nat ⊕ (Nat × Nat)) : h.1.length ≤ (am_lay h q).1.length ∧ am_sz h ≤ am_sz (am_lay h q) := by
  rw [am_sz_lay]
  refine ⟨by simp [am_lay], by omega⟩
theorem am_step_mono {E : aE} {M : Nat} {c0 c' : List Instr} {L S L' S' : List Value} {h h1 : aH} (hs : am_step E M c0 L S h = some (.inl (c', L', S', h1))) : h.1.length ≤ h1.1.length ∧ am_sz h ≤ am_sz h1 := by
  rcases am_step_lay hs with e | ⟨q, rfl⟩
  · unfold am_sz
    rw [e]
    exact ⟨Nat.le_refl _, Nat.le_refl _⟩
  · exact am_lay_mono h q
theorem am_run_mono {E : aE} : ∀ {n M : Nat} {c : List Instr} {L S : List Value} {h : aH} {r : aR}, am_run E n M c L S h = some r → h.1.length ≤ r.2.1.length ∧ am_sz h ≤ am_sz r.2 := by
  intro n
  induction n with
  | zero => intro M c L S h r hr; cases hr
  | succ n ih =>
    intro M c L S h r hr
    rcases am_run_succ hr with ⟨c', L', S', h1, hs, hr⟩ | hs | ⟨k, as, c', L', S', h1, v, h2, hs, hq, hr⟩
    · have a := am_step_mono hs
      have b := ih hr
      omega
    · obtain ⟨v, h1⟩ := r
      have := (am_step_ret hs).1
      subst this
      exact ⟨Nat.le_refl _, Nat.le_refl _⟩
    · have a := ih hq
      have b := ih hr
      have e := (am_step_call hs).2.2.1
      subst e
      dsimp only at a
      omega
def am_isret (M pc : Nat) (r : Option Value) : Prop := match r with
  | none => decode (am_cc M) pc = .ok (.return_, 1) ∧ am_rt M = none
  | some (.int x) => decode (am_cc M) pc = .ok (.ireturn, 1) ∧ (am_rt M = some .int ∨ (am_rt M = some .boolean ∧ (x = 0 ∨ x = 1)))
  | some (.long _) => decode (am_cc M) pc = .ok (.lreturn, 1) ∧ am_rt M = some .long
  | _ => False
theorem am_ret_is {E : aE} {M pc : Nat} {c0 : List Instr} {L S : List Value} {h h1 : aH} {v : Option Value} (hc : am_chk M pc c0 = true) (hs : am_step E M c0 L S h = some (.inr (.inl (v, h1)))) : am_isret M pc v := by
  rcases (am_step_ret hs).2.2 with ⟨c, x, rfl, rfl⟩ | ⟨c, x, rfl, rfl, hx⟩ | ⟨c, x, rfl, rfl⟩ | ⟨c, rfl, rfl⟩
  all_goals
    obtain ⟨j, len, h1, h2, h3⟩ := am_chk_cons (fun t e => by cases e) hc
    simp only [am_ins, Bool.and_eq_true, decide_eq_true_eq, beq_iff_eq] at h2
    obtain ⟨⟨rfl, rfl⟩, h4⟩ := h2
  · exact ⟨h1, Or.inl h4⟩
  · exact ⟨h1, Or.inr ⟨h4, hx⟩⟩
  · exact ⟨h1, h4⟩
  · exact ⟨h1, h4⟩
/-- what a run of the abstract machine gives of the machine -/
def am_goal (E : aE) (base : Nat) (xa : Nat → Nat) (dC : Nat → ClassId) (dI : Nat → Nat → Nat) (cA : Nat → ClassId) (l : Launch) (M : Nat) (c : List Instr) (L S : List Value) (h : aH) (r : aR) : Prop :=
  ∀ (p : Program) (e : Env) (R : Room) (s : State) (m : MethodId) (args : Array Value) (below : List Frame) (meth : Method) (cd : Code) (H : Heap) (ls : Array Slot) (locs : List Loc) (cells slots ce sl pc : Nat) (Q : State → Prop),
    am_ctx E base xa dC dI cA M p R s m args meth cd → am_chk M pc c = true → am_lrel base xa L ls (am_mL M) → am_hp base dC dI cA s h H locs → ce = cells + (r.2.1.length - h.1.length) → sl = slots + (am_sz r.2 - am_sz h) → ce ≤ R.cells → sl ≤ R.slots →
    (∀ (H' : Heap) (locs' : List Loc) (ls' : Array Slot) (pc' : Nat), am_hp base dC dI cA s r.2 H' locs' → am_isret M pc' r.1 → W p l e R s m args below meth cd H' locs' ce sl Q (F0 m pc' ls' (r.1.toList.map (am_mp base xa)))) →
    W p l e R s m args below meth cd H locs cells slots Q (F0 m pc ls (S.map (am_mp base xa)))
theorem am_met_of {E : aE} {base : Nat} {xa : Nat → Nat} {dC : Nat → ClassId} {dI : Nat → Nat → Nat} {cA : Nat → ClassId} {l : Launch} {k : Nat} {as : List Value} {h : aH} {r : aR} (hk : k < 186) (hlen : (am_loc as).length ≤ am_mL k) (hg : am_goal E base xa dC dI cA l k (am_B k 0) (am_ent k as) [] h r) : Met l (am_y k) (am_ws k) { frames := am_fr k, cells := r.2.1.length - h.1.length, slots := am_sz r.2 - am_sz h, locals := am_lc k } (am_Pc E base xa dC dI cA as h) (am_Qc base xa dC dI cA r.1 r.2) (r.2.1.length - h.1.length) (am_sz r.2 - am_sz h) (fun q => base ≤ q) := by
  have hmo := am_m_ok k hk
  simp only [am_mok, Bool.and_eq_true, Bool.or_eq_true, decide_eq_true_eq] at hmo
  obtain ⟨⟨⟨⟨⟨ho1, ho2⟩, ho3⟩, ho4⟩, ho5⟩, ho6⟩ := hmo
  refine Met.ofW (cc := am_cc k) (maxL := am_mL k) (ret := am_rt k) ho2 rfl ?_
  intro p e s m args below meth cd s₁ B hml hv
  obtain ⟨rfl, henv, hP, hsz⟩ := hv
  have hts := atoms_spec (ws := am_ws k) B.pre
  have hown : s.vm.findClass (am_y k).cls = some m.cls := findClass_of_methodNamed B.named
  have hname := (name_of_methodNamed B.named B.method).1
  have hctx : am_ctx E base xa dC dI cA k p (headSpec (am_ws k) { frames := am_fr k, cells := r.2.1.length - h.1.length, slots := am_sz r.2 - am_sz h, locals := am_lc k }).room s m (as.map (am_mp base xa)).toArray meth cd := ⟨B.exec, B.bytes, hml, by rw [ho1]; exact hown, fun w hw => hts w (List.mem_cons_of_mem _ hw), Nat.le_refl _, Nat.le_refl _, henv, fun q => hname.trans q⟩
  rw [lg_entry_eq]
  refine hg p e _ s m _ below meth cd s.heap _ [] 0 0 _ _ 0 _ hctx (am_chkB k 0) (am_lrel_entry hlen) ⟨hP, hsz, va_S.rf⟩ (Nat.zero_add _).symm (Nat.zero_add _).symm (Nat.le_refl _) (Nat.le_refl _) ?_
  intro H' locs' ls' pc' hp hret
  have hlocks := B.notSynchronized
  have hq : ∀ t : State, t.heap = H' → s.WarmedH t.vm → am_Qc base xa dC dI cA r.1 r.2 (as.map (am_mp base xa)).toArray s (.returned (r.1.map (am_mp base xa))) t := fun t ht hW => ⟨rfl, by rw [ht]; exact hp.1, by rw [ht]; exact hp.2.1, hp.2.2.F ht⟩
  obtain ⟨v, h2⟩ := r
  dsimp only at *
  match v, hret with
  | none, hret => exact W.vret B.exec B.bytes (B.returns.trans hret.2) hq hp.2.2.2.2 hret.1
  | some (.int x), hret =>
    rcases hret.2 with hi | ⟨hi, hx⟩
    · exact W.iret B.exec B.bytes (B.returns.trans hi) hq hp.2.2.2.2 hret.1
    · exact W.zret B.exec B.bytes (B.returns.trans hi) (by rcases hx with rfl | rfl <;> rfl) hq hp.2.2.2.2 hret.1
  | some (.long x), hret => exact W.lret B.exec B.bytes (B.returns.trans hret.2) hq hp.2.2.2.2 hret.1
theorem am_sound (E : aE) (base : Nat) (xa : Nat → Nat) (dC : Nat → ClassId) (dI : Nat → Nat → Nat) (cA : Nat → ClassId) (l : Launch) : ∀ (n M : Nat) (c : List Instr) (L S : List Value) (h : aH) (r : aR), am_run E n M c L S h = some r → am_goal E base xa dC dI cA l M c L S h r := by
  intro n
  induction n with
  | zero => intro M c L S h r hr; cases hr
  | succ n ih =>
    intro M c L S h r hr p e R s m args below meth cd H ls locs cells slots ce sl pc Q C hc hl P hce hsl hR hR2 kk
    rcases am_run_succ hr with ⟨c', L', S', h1, hs, hr⟩ | hs | ⟨k, as, c', L', S', h1, v, h2, hs, hq, hr⟩
    · have a := am_step_mono hs
      have b := am_run_mono hr
      refine am_go C hc hl P hs rfl rfl (by omega) (by omega) (fun pc' ls' H' locs' q1 q2 q3 => ?_)
      exact ih M c' L' S' h1 r hr p e R s m args below meth cd H' ls' locs' _ _ ce sl pc' Q C q1 q2 q3 (by omega) (by omega) hR hR2 kk
    · obtain ⟨v, h1⟩ := r
      have e1 := am_step_ret hs
      have e2 := am_ret_is hc hs
      obtain ⟨rfl, rfl, -⟩ := e1
      dsimp only at hce hsl kk
      rw [Nat.sub_self, Nat.add_zero] at hce hsl
      subst hce
      subst hsl
      exact kk H locs ls pc P e2
    · obtain ⟨rfl, rfl, rfl, rfl, has, g1, g2, g3, g4⟩ := am_step_call hs
      have a := am_run_mono hq
      have b := am_run_mono hr
      dsimp only at a
      have hk : k < 186 := by
        obtain ⟨j, len, i1, i2, i3⟩ := am_chk_cons (fun t e => by cases e) hc
        simp only [am_ins, Bool.and_eq_true, decide_eq_true_eq] at i2
        exact i2.1.1.1.2
      have hM := am_met_of (r := (v, h2)) hk g3 (ih k (am_B k 0) (am_ent k as) [] h1 (v, h2) hq)
      dsimp only at hM
      refine am_call C hc hl.1 P has g1 g2 g4 hM (by omega) (by omega) (fun H1 locs1 q1 q2 => ?_)
      exact ih M c' L' _ h2 r hr p e R s m args below meth cd H1 ls locs1 _ _ ce sl _ Q C q1 hl q2 (by omega) (by omega) hR hR2 kk
