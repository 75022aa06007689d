/-! ONE STEP OF THE ABSTRACT MACHINE IS A STEP OF THE MACHINE -/
def am_nest (w : Jvm.Cond) : Bool := match w with
  | .methodLinkNest _ _ _ _ => true
  | _ => false
def am_env (E : aE) (base : Nat) (xa : Nat → Nat) (dC : Nat → ClassId) (dI : Nat → Nat → Nat) (cA : Nat → ClassId) (U : State) : Prop :=
  va_K (dC, dI) vwCl (am_tys cA) U ∧ (∀ w ∈ lw_tbl, am_nest w = true → va_Nw w U) ∧ (∀ C ∈ am_AO, va_AO C U) ∧ (∀ x, x < 2 → va_Z "RailPower" (am_gn x) "[I" (.ref (xa x)) (fun q => base ≤ q) U U.heap) ∧ ((∀ x, x < 2 → va_T .int (xa x) (E x).1 (fun j => .int ((E x).2 j)) (fun q => base ≤ q) U U.heap) ∧ va_X (xa 2) (E 2).1 (E 2).2 U U.heap ∧ xa 2 < base) ∧ base ≤ U.heap.size
def am_ctx (E : aE) (base : Nat) (xa : Nat → Nat) (dC : Nat → ClassId) (dI : Nat → Nat → Nat) (cA : Nat → ClassId) (M : Nat) (p : Program) (R : Room) (s : State) (m : MethodId) (args : Array Value) (meth : Method) (cd : Code) : Prop :=
  p.tables.exec = Jvm.exec ∧ cd.code = am_cc M ∧ cd.maxLocals = am_mL M ∧ s.vm.findClass (am_cls (am_own M)) = some m.cls ∧ (∀ w ∈ lw_good, w.before args s = true) ∧ am_fr M ≤ R.frames ∧ am_lc M ≤ R.locals ∧ am_env E base xa dC dI cA s ∧ ((am_y M).name = "<init>" → meth.name = "<init>")
def am_hp (base : Nat) (dC : Nat → ClassId) (dI : Nat → Nat → Nat) (cA : Nat → ClassId) (s : State) (h : aH) (H : Heap) (locs : List Loc) : Prop :=
  va_P (dC, dI) vwCl (am_wl base cA h) H ∧ H.size = base + h.1.length ∧ va_S (fun q => base ≤ q) s.heap H locs
def am_sz (h : aH) : Nat := (h.1.map (fun q => match q with
  | .inl c => am_N c
  | .inr (_, n) => n)).sum
theorem am_chk_cons {M pc : Nat} {i : Instr} {c : List Instr} (hj : ∀ t, i ≠ .jsr t) (h : am_chk M pc (i :: c) = true) : ∃ j len, decode (am_cc M) pc = .ok (j, len) ∧ am_ins M pc j len i = true ∧ am_chk M (pc + len) c = true := by
  unfold am_chk at h
  split at h
  · exact absurd rfl (hj _)
  · split at h
    · rename_i j len hd
      rw [Bool.and_eq_true] at h
      exact ⟨j, len, hd, h.1, h.2⟩
    · cases h
theorem am_nn_eq {mk : Fin 4 → Instr} {j : Instr} {n : Nat} (h : am_nn mk j n = true) : ∃ k : Fin 4, j = mk k ∧ (k : Nat) = n := by
  unfold am_nn at h
  split at h
  · rename_i hn
    exact ⟨⟨n, hn⟩, of_decide_eq_true h, rfl⟩
  · cases h

theorem in_iadd {M pc : Nat} {c : List Instr} (h : am_chk M pc (.iadd :: c) = true) : decode (am_cc M) pc = .ok (.iadd, 1) ∧ am_chk M (pc + 1) c = true := by
  obtain ⟨j, len, h1, h2, h3⟩ := am_chk_cons (fun t e => by cases e) h
  simp only [am_ins, am_simple, Bool.and_true, Bool.and_eq_true, decide_eq_true_eq, beq_iff_eq] at h2
  obtain ⟨rfl, rfl⟩ := h2
  exact ⟨h1, h3⟩
theorem in_isub {M pc : Nat} {c : List Instr} (h : am_chk M pc (.isub :: c) = true) : decode (am_cc M) pc = .ok (.isub, 1) ∧ am_chk M (pc + 1) c = true := by
  obtain ⟨j, len, h1, h2, h3⟩ := am_chk_cons (fun t e => by cases e) h
  simp only [am_ins, am_simple, Bool.and_true, Bool.and_eq_true, decide_eq_true_eq, beq_iff_eq] at h2
  obtain ⟨rfl, rfl⟩ := h2
  exact ⟨h1, h3⟩
theorem in_imul {M pc : Nat} {c : List Instr} (h : am_chk M pc (.imul :: c) = true) : decode (am_cc M) pc = .ok (.imul, 1) ∧ am_chk M (pc + 1) c = true := by
  obtain ⟨j, len, h1, h2, h3⟩ := am_chk_cons (fun t e => by cases e) h
  simp only [am_ins, am_simple, Bool.and_true, Bool.and_eq_true, decide_eq_true_eq, beq_iff_eq] at h2
  obtain ⟨rfl, rfl⟩ := h2
  exact ⟨h1, h3⟩
theorem in_iand {M pc : Nat} {c : List Instr} (h : am_chk M pc (.iand :: c) = true) : decode (am_cc M) pc = .ok (.iand, 1) ∧ am_chk M (pc + 1) c = true := by
  obtain ⟨j, len, h1, h2, h3⟩ := am_chk_cons (fun t e => by cases e) h
  simp only [am_ins, am_simple, Bool.and_true, Bool.and_eq_true, decide_eq_true_eq, beq_iff_eq] at h2
  obtain ⟨rfl, rfl⟩ := h2
  exact ⟨h1, h3⟩
theorem in_ior {M pc : Nat} {c : List Instr} (h : am_chk M pc (.ior :: c) = true) : decode (am_cc M) pc = .ok (.ior, 1) ∧ am_chk M (pc + 1) c = true := by
  obtain ⟨j, len, h1, h2, h3⟩ := am_chk_cons (fun t e => by cases e) h
  simp only [am_ins, am_simple, Bool.and_true, Bool.and_eq_true, decide_eq_true_eq, beq_iff_eq] at h2
  obtain ⟨rfl, rfl⟩ := h2
  exact ⟨h1, h3⟩
theorem in_ixor {M pc : Nat} {c : List Instr} (h : am_chk M pc (.ixor :: c) = true) : decode (am_cc M) pc = .ok (.ixor, 1) ∧ am_chk M (pc + 1) c = true := by
  obtain ⟨j, len, h1, h2, h3⟩ := am_chk_cons (fun t e => by cases e) h
  simp only [am_ins, am_simple, Bool.and_true, Bool.and_eq_true, decide_eq_true_eq, beq_iff_eq] at h2
  obtain ⟨rfl, rfl⟩ := h2
  exact ⟨h1, h3⟩
theorem in_ishl {M pc : Nat} {c : List Instr} (h : am_chk M pc (.ishl :: c) = true) : decode (am_cc M) pc = .ok (.ishl, 1) ∧ am_chk M (pc + 1) c = true := by
  obtain ⟨j, len, h1, h2, h3⟩ := am_chk_cons (fun t e => by cases e) h
  simp only [am_ins, am_simple, Bool.and_true, Bool.and_eq_true, decide_eq_true_eq, beq_iff_eq] at h2
  obtain ⟨rfl, rfl⟩ := h2
  exact ⟨h1, h3⟩
theorem in_ishr {M pc : Nat} {c : List Instr} (h : am_chk M pc (.ishr :: c) = true) : decode (am_cc M) pc = .ok (.ishr, 1) ∧ am_chk M (pc + 1) c = true := by
  obtain ⟨j, len, h1, h2, h3⟩ := am_chk_cons (fun t e => by cases e) h
  simp only [am_ins, am_simple, Bool.and_true, Bool.and_eq_true, decide_eq_true_eq, beq_iff_eq] at h2
  obtain ⟨rfl, rfl⟩ := h2
  exact ⟨h1, h3⟩
theorem in_idiv {M pc : Nat} {c : List Instr} (h : am_chk M pc (.idiv :: c) = true) : decode (am_cc M) pc = .ok (.idiv, 1) ∧ am_chk M (pc + 1) c = true := by
  obtain ⟨j, len, h1, h2, h3⟩ := am_chk_cons (fun t e => by cases e) h
  simp only [am_ins, am_simple, Bool.and_true, Bool.and_eq_true, decide_eq_true_eq, beq_iff_eq] at h2
  obtain ⟨rfl, rfl⟩ := h2
  exact ⟨h1, h3⟩
theorem in_irem {M pc : Nat} {c : List Instr} (h : am_chk M pc (.irem :: c) = true) : decode (am_cc M) pc = .ok (.irem, 1) ∧ am_chk M (pc + 1) c = true := by
  obtain ⟨j, len, h1, h2, h3⟩ := am_chk_cons (fun t e => by cases e) h
  simp only [am_ins, am_simple, Bool.and_true, Bool.and_eq_true, decide_eq_true_eq, beq_iff_eq] at h2
  obtain ⟨rfl, rfl⟩ := h2
  exact ⟨h1, h3⟩
theorem in_ineg {M pc : Nat} {c : List Instr} (h : am_chk M pc (.ineg :: c) = true) : decode (am_cc M) pc = .ok (.ineg, 1) ∧ am_chk M (pc + 1) c = true := by
  obtain ⟨j, len, h1, h2, h3⟩ := am_chk_cons (fun t e => by cases e) h
  simp only [am_ins, am_simple, Bool.and_true, Bool.and_eq_true, decide_eq_true_eq, beq_iff_eq] at h2
  obtain ⟨rfl, rfl⟩ := h2
  exact ⟨h1, h3⟩
theorem in_ladd {M pc : Nat} {c : List Instr} (h : am_chk M pc (.ladd :: c) = true) : decode (am_cc M) pc = .ok (.ladd, 1) ∧ am_chk M (pc + 1) c = true := by
  obtain ⟨j, len, h1, h2, h3⟩ := am_chk_cons (fun t e => by cases e) h
  simp only [am_ins, am_simple, Bool.and_true, Bool.and_eq_true, decide_eq_true_eq, beq_iff_eq] at h2
  obtain ⟨rfl, rfl⟩ := h2
  exact ⟨h1, h3⟩
theorem in_lsub {M pc : Nat} {c : List Instr} (h : am_chk M pc (.lsub :: c) = true) : decode (am_cc M) pc = .ok (.lsub, 1) ∧ am_chk M (pc + 1) c = true := by
  obtain ⟨j, len, h1, h2, h3⟩ := am_chk_cons (fun t e => by cases e) h
  simp only [am_ins, am_simple, Bool.and_true, Bool.and_eq_true, decide_eq_true_eq, beq_iff_eq] at h2
  obtain ⟨rfl, rfl⟩ := h2
  exact ⟨h1, h3⟩
theorem in_lmul {M pc : Nat} {c : List Instr} (h : am_chk M pc (.lmul :: c) = true) : decode (am_cc M) pc = .ok (.lmul, 1) ∧ am_chk M (pc + 1) c = true := by
  obtain ⟨j, len, h1, h2, h3⟩ := am_chk_cons (fun t e => by cases e) h
  simp only [am_ins, am_simple, Bool.and_true, Bool.and_eq_true, decide_eq_true_eq, beq_iff_eq] at h2
  obtain ⟨rfl, rfl⟩ := h2
  exact ⟨h1, h3⟩
theorem in_ldiv {M pc : Nat} {c : List Instr} (h : am_chk M pc (.ldiv :: c) = true) : decode (am_cc M) pc = .ok (.ldiv, 1) ∧ am_chk M (pc + 1) c = true := by
  obtain ⟨j, len, h1, h2, h3⟩ := am_chk_cons (fun t e => by cases e) h
  simp only [am_ins, am_simple, Bool.and_true, Bool.and_eq_true, decide_eq_true_eq, beq_iff_eq] at h2
  obtain ⟨rfl, rfl⟩ := h2
  exact ⟨h1, h3⟩
theorem in_lrem {M pc : Nat} {c : List Instr} (h : am_chk M pc (.lrem :: c) = true) : decode (am_cc M) pc = .ok (.lrem, 1) ∧ am_chk M (pc + 1) c = true := by
  obtain ⟨j, len, h1, h2, h3⟩ := am_chk_cons (fun t e => by cases e) h
  simp only [am_ins, am_simple, Bool.and_true, Bool.and_eq_true, decide_eq_true_eq, beq_iff_eq] at h2
  obtain ⟨rfl, rfl⟩ := h2
  exact ⟨h1, h3⟩
theorem in_lneg {M pc : Nat} {c : List Instr} (h : am_chk M pc (.lneg :: c) = true) : decode (am_cc M) pc = .ok (.lneg, 1) ∧ am_chk M (pc + 1) c = true := by
  obtain ⟨j, len, h1, h2, h3⟩ := am_chk_cons (fun t e => by cases e) h
  simp only [am_ins, am_simple, Bool.and_true, Bool.and_eq_true, decide_eq_true_eq, beq_iff_eq] at h2
  obtain ⟨rfl, rfl⟩ := h2
  exact ⟨h1, h3⟩
theorem in_lcmp {M pc : Nat} {c : List Instr} (h : am_chk M pc (.lcmp :: c) = true) : decode (am_cc M) pc = .ok (.lcmp, 1) ∧ am_chk M (pc + 1) c = true := by
  obtain ⟨j, len, h1, h2, h3⟩ := am_chk_cons (fun t e => by cases e) h
  simp only [am_ins, am_simple, Bool.and_true, Bool.and_eq_true, decide_eq_true_eq, beq_iff_eq] at h2
  obtain ⟨rfl, rfl⟩ := h2
  exact ⟨h1, h3⟩
theorem in_i2l {M pc : Nat} {c : List Instr} (h : am_chk M pc (.i2l :: c) = true) : decode (am_cc M) pc = .ok (.i2l, 1) ∧ am_chk M (pc + 1) c = true := by
  obtain ⟨j, len, h1, h2, h3⟩ := am_chk_cons (fun t e => by cases e) h
  simp only [am_ins, am_simple, Bool.and_true, Bool.and_eq_true, decide_eq_true_eq, beq_iff_eq] at h2
  obtain ⟨rfl, rfl⟩ := h2
  exact ⟨h1, h3⟩
theorem in_i2b {M pc : Nat} {c : List Instr} (h : am_chk M pc (.i2b :: c) = true) : decode (am_cc M) pc = .ok (.i2b, 1) ∧ am_chk M (pc + 1) c = true := by
  obtain ⟨j, len, h1, h2, h3⟩ := am_chk_cons (fun t e => by cases e) h
  simp only [am_ins, am_simple, Bool.and_true, Bool.and_eq_true, decide_eq_true_eq, beq_iff_eq] at h2
  obtain ⟨rfl, rfl⟩ := h2
  exact ⟨h1, h3⟩
theorem in_i2s {M pc : Nat} {c : List Instr} (h : am_chk M pc (.i2s :: c) = true) : decode (am_cc M) pc = .ok (.i2s, 1) ∧ am_chk M (pc + 1) c = true := by
  obtain ⟨j, len, h1, h2, h3⟩ := am_chk_cons (fun t e => by cases e) h
  simp only [am_ins, am_simple, Bool.and_true, Bool.and_eq_true, decide_eq_true_eq, beq_iff_eq] at h2
  obtain ⟨rfl, rfl⟩ := h2
  exact ⟨h1, h3⟩
theorem in_dup {M pc : Nat} {c : List Instr} (h : am_chk M pc (.dup :: c) = true) : decode (am_cc M) pc = .ok (.dup, 1) ∧ am_chk M (pc + 1) c = true := by
  obtain ⟨j, len, h1, h2, h3⟩ := am_chk_cons (fun t e => by cases e) h
  simp only [am_ins, am_simple, Bool.and_true, Bool.and_eq_true, decide_eq_true_eq, beq_iff_eq] at h2
  obtain ⟨rfl, rfl⟩ := h2
  exact ⟨h1, h3⟩
theorem in_dup2 {M pc : Nat} {c : List Instr} (h : am_chk M pc (.dup2 :: c) = true) : decode (am_cc M) pc = .ok (.dup2, 1) ∧ am_chk M (pc + 1) c = true := by
  obtain ⟨j, len, h1, h2, h3⟩ := am_chk_cons (fun t e => by cases e) h
  simp only [am_ins, am_simple, Bool.and_true, Bool.and_eq_true, decide_eq_true_eq, beq_iff_eq] at h2
  obtain ⟨rfl, rfl⟩ := h2
  exact ⟨h1, h3⟩
theorem in_pop {M pc : Nat} {c : List Instr} (h : am_chk M pc (.pop :: c) = true) : decode (am_cc M) pc = .ok (.pop, 1) ∧ am_chk M (pc + 1) c = true := by
  obtain ⟨j, len, h1, h2, h3⟩ := am_chk_cons (fun t e => by cases e) h
  simp only [am_ins, am_simple, Bool.and_true, Bool.and_eq_true, decide_eq_true_eq, beq_iff_eq] at h2
  obtain ⟨rfl, rfl⟩ := h2
  exact ⟨h1, h3⟩
theorem in_iaload {M pc : Nat} {c : List Instr} (h : am_chk M pc (.iaload :: c) = true) : decode (am_cc M) pc = .ok (.iaload, 1) ∧ am_chk M (pc + 1) c = true := by
  obtain ⟨j, len, h1, h2, h3⟩ := am_chk_cons (fun t e => by cases e) h
  simp only [am_ins, am_simple, Bool.and_true, Bool.and_eq_true, decide_eq_true_eq, beq_iff_eq] at h2
  obtain ⟨rfl, rfl⟩ := h2
  exact ⟨h1, h3⟩
theorem in_baload {M pc : Nat} {c : List Instr} (h : am_chk M pc (.baload :: c) = true) : decode (am_cc M) pc = .ok (.baload, 1) ∧ am_chk M (pc + 1) c = true := by
  obtain ⟨j, len, h1, h2, h3⟩ := am_chk_cons (fun t e => by cases e) h
  simp only [am_ins, am_simple, Bool.and_true, Bool.and_eq_true, decide_eq_true_eq, beq_iff_eq] at h2
  obtain ⟨rfl, rfl⟩ := h2
  exact ⟨h1, h3⟩
theorem in_laload {M pc : Nat} {c : List Instr} (h : am_chk M pc (.laload :: c) = true) : decode (am_cc M) pc = .ok (.laload, 1) ∧ am_chk M (pc + 1) c = true := by
  obtain ⟨j, len, h1, h2, h3⟩ := am_chk_cons (fun t e => by cases e) h
  simp only [am_ins, am_simple, Bool.and_true, Bool.and_eq_true, decide_eq_true_eq, beq_iff_eq] at h2
  obtain ⟨rfl, rfl⟩ := h2
  exact ⟨h1, h3⟩
theorem in_aaload {M pc : Nat} {c : List Instr} (h : am_chk M pc (.aaload :: c) = true) : decode (am_cc M) pc = .ok (.aaload, 1) ∧ am_chk M (pc + 1) c = true := by
  obtain ⟨j, len, h1, h2, h3⟩ := am_chk_cons (fun t e => by cases e) h
  simp only [am_ins, am_simple, Bool.and_true, Bool.and_eq_true, decide_eq_true_eq, beq_iff_eq] at h2
  obtain ⟨rfl, rfl⟩ := h2
  exact ⟨h1, h3⟩
theorem in_iastore {M pc : Nat} {c : List Instr} (h : am_chk M pc (.iastore :: c) = true) : decode (am_cc M) pc = .ok (.iastore, 1) ∧ am_chk M (pc + 1) c = true := by
  obtain ⟨j, len, h1, h2, h3⟩ := am_chk_cons (fun t e => by cases e) h
  simp only [am_ins, am_simple, Bool.and_true, Bool.and_eq_true, decide_eq_true_eq, beq_iff_eq] at h2
  obtain ⟨rfl, rfl⟩ := h2
  exact ⟨h1, h3⟩
theorem in_bastore {M pc : Nat} {c : List Instr} (h : am_chk M pc (.bastore :: c) = true) : decode (am_cc M) pc = .ok (.bastore, 1) ∧ am_chk M (pc + 1) c = true := by
  obtain ⟨j, len, h1, h2, h3⟩ := am_chk_cons (fun t e => by cases e) h
  simp only [am_ins, am_simple, Bool.and_true, Bool.and_eq_true, decide_eq_true_eq, beq_iff_eq] at h2
  obtain ⟨rfl, rfl⟩ := h2
  exact ⟨h1, h3⟩
theorem in_lastore {M pc : Nat} {c : List Instr} (h : am_chk M pc (.lastore :: c) = true) : decode (am_cc M) pc = .ok (.lastore, 1) ∧ am_chk M (pc + 1) c = true := by
  obtain ⟨j, len, h1, h2, h3⟩ := am_chk_cons (fun t e => by cases e) h
  simp only [am_ins, am_simple, Bool.and_true, Bool.and_eq_true, decide_eq_true_eq, beq_iff_eq] at h2
  obtain ⟨rfl, rfl⟩ := h2
  exact ⟨h1, h3⟩
theorem in_aastore {M pc : Nat} {c : List Instr} (h : am_chk M pc (.aastore :: c) = true) : decode (am_cc M) pc = .ok (.aastore, 1) ∧ am_chk M (pc + 1) c = true := by
  obtain ⟨j, len, h1, h2, h3⟩ := am_chk_cons (fun t e => by cases e) h
  simp only [am_ins, am_simple, Bool.and_true, Bool.and_eq_true, decide_eq_true_eq, beq_iff_eq] at h2
  obtain ⟨rfl, rfl⟩ := h2
  exact ⟨h1, h3⟩
theorem in_arraylength {M pc : Nat} {c : List Instr} (h : am_chk M pc (.arraylength :: c) = true) : decode (am_cc M) pc = .ok (.arraylength, 1) ∧ am_chk M (pc + 1) c = true := by
  obtain ⟨j, len, h1, h2, h3⟩ := am_chk_cons (fun t e => by cases e) h
  simp only [am_ins, am_simple, Bool.and_true, Bool.and_eq_true, decide_eq_true_eq, beq_iff_eq] at h2
  obtain ⟨rfl, rfl⟩ := h2
  exact ⟨h1, h3⟩
section Snd
variable {E : aE} {base : Nat} {xa : Nat → Nat} {dC : Nat → ClassId} {dI : Nat → Nat → Nat} {cA : Nat → ClassId}
variable {p : Program} {l : Launch} {e : Env} {R : Room} {s : State} {m : MethodId} {args : Array Value} {below : List Frame} {meth : Method} {cd : Code} {H : Heap} {locs : List Loc} {cells slots : Nat} {Q : State → Prop}
variable {M pc : Nat} {ls : Array Slot} {c : List Instr} {L S : List Value} {h : aH}

theorem go_iadd (C : am_ctx E base xa dC dI cA M p R s m args meth cd) {x y : Int32}  (hc : am_chk M pc (.iadd :: c) = true) (kk : am_chk M (pc + 1) c = true → W p l e R s m args below meth cd H locs cells slots Q (F0 m (pc + 1) ls (.int (x + y) :: S.map (am_mp base xa)))) : W p l e R s m args below meth cd H locs cells slots Q (F0 m pc ls (.int y :: .int x :: S.map (am_mp base xa))) := lv_iadd C.1 C.2.1 (in_iadd hc).1 (kk (in_iadd hc).2)
theorem go_isub (C : am_ctx E base xa dC dI cA M p R s m args meth cd) {x y : Int32}  (hc : am_chk M pc (.isub :: c) = true) (kk : am_chk M (pc + 1) c = true → W p l e R s m args below meth cd H locs cells slots Q (F0 m (pc + 1) ls (.int (x - y) :: S.map (am_mp base xa)))) : W p l e R s m args below meth cd H locs cells slots Q (F0 m pc ls (.int y :: .int x :: S.map (am_mp base xa))) := lv_isub C.1 C.2.1 (in_isub hc).1 (kk (in_isub hc).2)
theorem go_imul (C : am_ctx E base xa dC dI cA M p R s m args meth cd) {x y : Int32}  (hc : am_chk M pc (.imul :: c) = true) (kk : am_chk M (pc + 1) c = true → W p l e R s m args below meth cd H locs cells slots Q (F0 m (pc + 1) ls (.int (x * y) :: S.map (am_mp base xa)))) : W p l e R s m args below meth cd H locs cells slots Q (F0 m pc ls (.int y :: .int x :: S.map (am_mp base xa))) := lv_imul C.1 C.2.1 (in_imul hc).1 (kk (in_imul hc).2)
theorem go_iand (C : am_ctx E base xa dC dI cA M p R s m args meth cd) {x y : Int32}  (hc : am_chk M pc (.iand :: c) = true) (kk : am_chk M (pc + 1) c = true → W p l e R s m args below meth cd H locs cells slots Q (F0 m (pc + 1) ls (.int (x &&& y) :: S.map (am_mp base xa)))) : W p l e R s m args below meth cd H locs cells slots Q (F0 m pc ls (.int y :: .int x :: S.map (am_mp base xa))) := lv_iand C.1 C.2.1 (in_iand hc).1 (kk (in_iand hc).2)
theorem go_ior (C : am_ctx E base xa dC dI cA M p R s m args meth cd) {x y : Int32}  (hc : am_chk M pc (.ior :: c) = true) (kk : am_chk M (pc + 1) c = true → W p l e R s m args below meth cd H locs cells slots Q (F0 m (pc + 1) ls (.int (x ||| y) :: S.map (am_mp base xa)))) : W p l e R s m args below meth cd H locs cells slots Q (F0 m pc ls (.int y :: .int x :: S.map (am_mp base xa))) := lv_ior C.1 C.2.1 (in_ior hc).1 (kk (in_ior hc).2)
theorem go_ixor (C : am_ctx E base xa dC dI cA M p R s m args meth cd) {x y : Int32}  (hc : am_chk M pc (.ixor :: c) = true) (kk : am_chk M (pc + 1) c = true → W p l e R s m args below meth cd H locs cells slots Q (F0 m (pc + 1) ls (.int (x ^^^ y) :: S.map (am_mp base xa)))) : W p l e R s m args below meth cd H locs cells slots Q (F0 m pc ls (.int y :: .int x :: S.map (am_mp base xa))) := lv_ixor C.1 C.2.1 (in_ixor hc).1 (kk (in_ixor hc).2)
theorem go_ishl (C : am_ctx E base xa dC dI cA M p R s m args meth cd) {x y : Int32}  (hc : am_chk M pc (.ishl :: c) = true) (kk : am_chk M (pc + 1) c = true → W p l e R s m args below meth cd H locs cells slots Q (F0 m (pc + 1) ls (.int (x <<< (y &&& 31)) :: S.map (am_mp base xa)))) : W p l e R s m args below meth cd H locs cells slots Q (F0 m pc ls (.int y :: .int x :: S.map (am_mp base xa))) := lv_ishl C.1 C.2.1 (in_ishl hc).1 (kk (in_ishl hc).2)
theorem go_ishr (C : am_ctx E base xa dC dI cA M p R s m args meth cd) {x y : Int32}  (hc : am_chk M pc (.ishr :: c) = true) (kk : am_chk M (pc + 1) c = true → W p l e R s m args below meth cd H locs cells slots Q (F0 m (pc + 1) ls (.int (x >>> (y &&& 31)) :: S.map (am_mp base xa)))) : W p l e R s m args below meth cd H locs cells slots Q (F0 m pc ls (.int y :: .int x :: S.map (am_mp base xa))) := lv_ishr C.1 C.2.1 (in_ishr hc).1 (kk (in_ishr hc).2)
theorem go_idiv (C : am_ctx E base xa dC dI cA M p R s m args meth cd) {x y : Int32} (hy : ¬ y = 0) (hc : am_chk M pc (.idiv :: c) = true) (kk : am_chk M (pc + 1) c = true → W p l e R s m args below meth cd H locs cells slots Q (F0 m (pc + 1) ls (.int (x / y) :: S.map (am_mp base xa)))) : W p l e R s m args below meth cd H locs cells slots Q (F0 m pc ls (.int y :: .int x :: S.map (am_mp base xa))) := lv_idiv C.1 C.2.1 (in_idiv hc).1 hy (kk (in_idiv hc).2)
theorem go_irem (C : am_ctx E base xa dC dI cA M p R s m args meth cd) {x y : Int32} (hy : ¬ y = 0) (hc : am_chk M pc (.irem :: c) = true) (kk : am_chk M (pc + 1) c = true → W p l e R s m args below meth cd H locs cells slots Q (F0 m (pc + 1) ls (.int (x - x / y * y) :: S.map (am_mp base xa)))) : W p l e R s m args below meth cd H locs cells slots Q (F0 m pc ls (.int y :: .int x :: S.map (am_mp base xa))) := lv_irem C.1 C.2.1 (in_irem hc).1 hy (kk (in_irem hc).2)
theorem go_ladd (C : am_ctx E base xa dC dI cA M p R s m args meth cd) {x y : Int64}  (hc : am_chk M pc (.ladd :: c) = true) (kk : am_chk M (pc + 1) c = true → W p l e R s m args below meth cd H locs cells slots Q (F0 m (pc + 1) ls (.long (x + y) :: S.map (am_mp base xa)))) : W p l e R s m args below meth cd H locs cells slots Q (F0 m pc ls (.long y :: .long x :: S.map (am_mp base xa))) := lv_ladd C.1 C.2.1 (in_ladd hc).1 (kk (in_ladd hc).2)
theorem go_lsub (C : am_ctx E base xa dC dI cA M p R s m args meth cd) {x y : Int64}  (hc : am_chk M pc (.lsub :: c) = true) (kk : am_chk M (pc + 1) c = true → W p l e R s m args below meth cd H locs cells slots Q (F0 m (pc + 1) ls (.long (x - y) :: S.map (am_mp base xa)))) : W p l e R s m args below meth cd H locs cells slots Q (F0 m pc ls (.long y :: .long x :: S.map (am_mp base xa))) := lv_lsub C.1 C.2.1 (in_lsub hc).1 (kk (in_lsub hc).2)
theorem go_lmul (C : am_ctx E base xa dC dI cA M p R s m args meth cd) {x y : Int64}  (hc : am_chk M pc (.lmul :: c) = true) (kk : am_chk M (pc + 1) c = true → W p l e R s m args below meth cd H locs cells slots Q (F0 m (pc + 1) ls (.long (x * y) :: S.map (am_mp base xa)))) : W p l e R s m args below meth cd H locs cells slots Q (F0 m pc ls (.long y :: .long x :: S.map (am_mp base xa))) := lv_lmul C.1 C.2.1 (in_lmul hc).1 (kk (in_lmul hc).2)
theorem go_ldiv (C : am_ctx E base xa dC dI cA M p R s m args meth cd) {x y : Int64} (hy : ¬ y = 0) (hc : am_chk M pc (.ldiv :: c) = true) (kk : am_chk M (pc + 1) c = true → W p l e R s m args below meth cd H locs cells slots Q (F0 m (pc + 1) ls (.long (x / y) :: S.map (am_mp base xa)))) : W p l e R s m args below meth cd H locs cells slots Q (F0 m pc ls (.long y :: .long x :: S.map (am_mp base xa))) := lv_ldiv C.1 C.2.1 (in_ldiv hc).1 hy (kk (in_ldiv hc).2)
theorem go_lrem (C : am_ctx E base xa dC dI cA M p R s m args meth cd) {x y : Int64} (hy : ¬ y = 0) (hc : am_chk M pc (.lrem :: c) = true) (kk : am_chk M (pc + 1) c = true → W p l e R s m args below meth cd H locs cells slots Q (F0 m (pc + 1) ls (.long (x - x / y * y) :: S.map (am_mp base xa)))) : W p l e R s m args below meth cd H locs cells slots Q (F0 m pc ls (.long y :: .long x :: S.map (am_mp base xa))) := lv_lrem C.1 C.2.1 (in_lrem hc).1 hy (kk (in_lrem hc).2)
theorem go_ineg (C : am_ctx E base xa dC dI cA M p R s m args meth cd) {x : Int32}  (hc : am_chk M pc (.ineg :: c) = true) (kk : am_chk M (pc + 1) c = true → W p l e R s m args below meth cd H locs cells slots Q (F0 m (pc + 1) ls (.int (-x) :: S.map (am_mp base xa)))) : W p l e R s m args below meth cd H locs cells slots Q (F0 m pc ls (.int x :: S.map (am_mp base xa))) := lv_ineg C.1 C.2.1 (in_ineg hc).1 (kk (in_ineg hc).2)
theorem go_lneg (C : am_ctx E base xa dC dI cA M p R s m args meth cd) {x : Int64}  (hc : am_chk M pc (.lneg :: c) = true) (kk : am_chk M (pc + 1) c = true → W p l e R s m args below meth cd H locs cells slots Q (F0 m (pc + 1) ls (.long (-x) :: S.map (am_mp base xa)))) : W p l e R s m args below meth cd H locs cells slots Q (F0 m pc ls (.long x :: S.map (am_mp base xa))) := lv_lneg C.1 C.2.1 (in_lneg hc).1 (kk (in_lneg hc).2)
theorem go_lcmp (C : am_ctx E base xa dC dI cA M p R s m args meth cd) {x y : Int64}  (hc : am_chk M pc (.lcmp :: c) = true) (kk : am_chk M (pc + 1) c = true → W p l e R s m args below meth cd H locs cells slots Q (F0 m (pc + 1) ls (.int (lg_cmp x y) :: S.map (am_mp base xa)))) : W p l e R s m args below meth cd H locs cells slots Q (F0 m pc ls (.long y :: .long x :: S.map (am_mp base xa))) := W.lcmp C.1 C.2.1 (in_lcmp hc).1 (kk (in_lcmp hc).2)
theorem go_i2l (C : am_ctx E base xa dC dI cA M p R s m args meth cd) {x : Int32}  (hc : am_chk M pc (.i2l :: c) = true) (kk : am_chk M (pc + 1) c = true → W p l e R s m args below meth cd H locs cells slots Q (F0 m (pc + 1) ls (.long x.toInt64 :: S.map (am_mp base xa)))) : W p l e R s m args below meth cd H locs cells slots Q (F0 m pc ls (.int x :: S.map (am_mp base xa))) := lv_i2l C.1 C.2.1 (in_i2l hc).1 rfl (kk (in_i2l hc).2)
theorem go_i2b (C : am_ctx E base xa dC dI cA M p R s m args meth cd) {x : Int32}  (hc : am_chk M pc (.i2b :: c) = true) (kk : am_chk M (pc + 1) c = true → W p l e R s m args below meth cd H locs cells slots Q (F0 m (pc + 1) ls (.int x.toInt8.toInt32 :: S.map (am_mp base xa)))) : W p l e R s m args below meth cd H locs cells slots Q (F0 m pc ls (.int x :: S.map (am_mp base xa))) := lv_i2b C.1 C.2.1 (in_i2b hc).1 rfl (kk (in_i2b hc).2)
theorem go_i2s (C : am_ctx E base xa dC dI cA M p R s m args meth cd) {x : Int32}  (hc : am_chk M pc (.i2s :: c) = true) (kk : am_chk M (pc + 1) c = true → W p l e R s m args below meth cd H locs cells slots Q (F0 m (pc + 1) ls (.int x.toInt16.toInt32 :: S.map (am_mp base xa)))) : W p l e R s m args below meth cd H locs cells slots Q (F0 m pc ls (.int x :: S.map (am_mp base xa))) := lv_i2s C.1 C.2.1 (in_i2s hc).1 rfl (kk (in_i2s hc).2)
theorem go_dup (C : am_ctx E base xa dC dI cA M p R s m args meth cd) {v : Value} (hv : v.category = 1) (hc : am_chk M pc (.dup :: c) = true) (kk : am_chk M (pc + 1) c = true → W p l e R s m args below meth cd H locs cells slots Q (F0 m (pc + 1) ls (v :: v :: S.map (am_mp base xa)))) : W p l e R s m args below meth cd H locs cells slots Q (F0 m pc ls (v :: S.map (am_mp base xa))) := lv_dup C.1 C.2.1 (in_dup hc).1 hv (kk (in_dup hc).2)
theorem go_pop (C : am_ctx E base xa dC dI cA M p R s m args meth cd) {v : Value} (hv : v.category = 1) (hc : am_chk M pc (.pop :: c) = true) (kk : am_chk M (pc + 1) c = true → W p l e R s m args below meth cd H locs cells slots Q (F0 m (pc + 1) ls (S.map (am_mp base xa)))) : W p l e R s m args below meth cd H locs cells slots Q (F0 m pc ls (v :: S.map (am_mp base xa))) := lv_pop C.1 C.2.1 (in_pop hc).1 hv (kk (in_pop hc).2)
theorem go_dup2 (C : am_ctx E base xa dC dI cA M p R s m args meth cd) {v u : Value} (hv : v.category = 1) (hu : u.category = 1) (hc : am_chk M pc (.dup2 :: c) = true) (kk : am_chk M (pc + 1) c = true → W p l e R s m args below meth cd H locs cells slots Q (F0 m (pc + 1) ls (v :: u :: v :: u :: S.map (am_mp base xa)))) : W p l e R s m args below meth cd H locs cells slots Q (F0 m pc ls (v :: u :: S.map (am_mp base xa))) := lv_dup2_11 C.1 C.2.1 (in_dup2 hc).1 hv hu (kk (in_dup2 hc).2)
theorem go_bipush (C : am_ctx E base xa dC dI cA M p R s m args meth cd) {v : Int} (hc : am_chk M pc (.bipush v :: c) = true) (kk : ∀ len, am_chk M (pc + len) c = true → W p l e R s m args below meth cd H locs cells slots Q (F0 m (pc + len) ls (.int (Int32.ofInt v) :: S.map (am_mp base xa)))) : W p l e R s m args below meth cd H locs cells slots Q (F0 m pc ls (S.map (am_mp base xa))) := by
  obtain ⟨j, len, h1, h2, h3⟩ := am_chk_cons (fun t e => by cases e) hc
  simp only [am_ins, Bool.or_eq_true, Bool.and_eq_true, decide_eq_true_eq, beq_iff_eq, List.any_eq_true] at h2
  rcases h2 with ((⟨rfl, rfl⟩ | ⟨⟨rfl, rfl⟩, hv⟩) | ⟨⟨rfl, rfl⟩, hv⟩) | ⟨rfl, q, hq, ⟨hq1, rfl⟩, hq2⟩
  · exact lv_iconst C.1 C.2.1 h1 rfl (kk _ h3)
  · exact lv_bipush C.1 C.2.1 h1 hv (kk _ h3)
  · exact lv_sipush C.1 C.2.1 h1 hv (kk _ h3)
  · have hw := am_wd_in (List.all_eq_true.mp am_K_ok q hq)
    rw [hq1, hq2] at hw
    exact lv_ldc C.1 C.2.1 C.2.2.2.1 (C.2.2.2.2.1 _ hw) h1 (kk _ h3)
theorem go_sipush (C : am_ctx E base xa dC dI cA M p R s m args meth cd) {v : Int} (hc : am_chk M pc (.sipush v :: c) = true) (kk : ∀ len, am_chk M (pc + len) c = true → W p l e R s m args below meth cd H locs cells slots Q (F0 m (pc + len) ls (.long (Int64.ofInt v) :: S.map (am_mp base xa)))) : W p l e R s m args below meth cd H locs cells slots Q (F0 m pc ls (S.map (am_mp base xa))) := by
  obtain ⟨j, len, h1, h2, h3⟩ := am_chk_cons (fun t e => by cases e) hc
  simp only [am_ins, Bool.or_eq_true, Bool.and_eq_true, decide_eq_true_eq, beq_iff_eq, List.any_eq_true] at h2
  rcases h2 with (⟨⟨rfl, rfl⟩, rfl⟩ | ⟨⟨rfl, rfl⟩, rfl⟩) | ⟨rfl, q, hq, ⟨hq1, rfl⟩, hq2⟩
  · exact lv_lconst C.1 C.2.1 h1 rfl (kk _ h3)
  · exact lv_lconst C.1 C.2.1 h1 rfl (kk _ h3)
  · have hw := am_wd_in (List.all_eq_true.mp am_J_ok q hq)
    rw [hq1, hq2] at hw
    exact lv_ldc2 C.1 C.2.1 C.2.2.2.1 (C.2.2.2.2.1 _ hw) h1 (kk _ h3)
theorem go_iload (C : am_ctx E base xa dC dI cA M p R s m args meth cd) {n : Nat} {x : Int32} (hl : am_lrel base xa L ls (am_mL M)) (hx : L[n]? = some (.int x)) (hc : am_chk M pc (.iload n :: c) = true) (kk : ∀ len, am_chk M (pc + len) c = true → W p l e R s m args below meth cd H locs cells slots Q (F0 m (pc + len) ls (.int x :: S.map (am_mp base xa)))) : W p l e R s m args below meth cd H locs cells slots Q (F0 m pc ls (S.map (am_mp base xa))) := by
  obtain ⟨j, len, h1, h2, h3⟩ := am_chk_cons (fun t e => by cases e) hc
  simp only [am_ins, Bool.or_eq_true, Bool.and_eq_true, decide_eq_true_eq, beq_iff_eq] at h2
  have hg := hl.2.2.2 n _ hx (fun e => by cases e)
  rcases h2 with ⟨rfl, rfl⟩ | ⟨hn, rfl⟩
  · exact lv_iload C.1 C.2.1 h1 hg (kk _ h3)
  · obtain ⟨k, rfl, hk⟩ := am_nn_eq hn
    exact lv_iload_n C.1 C.2.1 h1 hk hg (kk _ h3)
theorem go_lload (C : am_ctx E base xa dC dI cA M p R s m args meth cd) {n : Nat} {x : Int64} (hl : am_lrel base xa L ls (am_mL M)) (hx : L[n]? = some (.long x)) (hc : am_chk M pc (.lload n :: c) = true) (kk : ∀ len, am_chk M (pc + len) c = true → W p l e R s m args below meth cd H locs cells slots Q (F0 m (pc + len) ls (.long x :: S.map (am_mp base xa)))) : W p l e R s m args below meth cd H locs cells slots Q (F0 m pc ls (S.map (am_mp base xa))) := by
  obtain ⟨j, len, h1, h2, h3⟩ := am_chk_cons (fun t e => by cases e) hc
  simp only [am_ins, Bool.or_eq_true, Bool.and_eq_true, decide_eq_true_eq, beq_iff_eq] at h2
  have hg := hl.2.2.2 n _ hx (fun e => by cases e)
  rcases h2 with ⟨rfl, rfl⟩ | ⟨hn, rfl⟩
  · exact lv_lload C.1 C.2.1 h1 hg (kk _ h3)
  · obtain ⟨k, rfl, hk⟩ := am_nn_eq hn
    exact lv_lload_n C.1 C.2.1 h1 hk hg (kk _ h3)
theorem go_aloadR (C : am_ctx E base xa dC dI cA M p R s m args meth cd) {n x : Nat} (hl : am_lrel base xa L ls (am_mL M)) (hx : L[n]? = some (.ref x)) (hc : am_chk M pc (.aload n :: c) = true) (kk : ∀ len, am_chk M (pc + len) c = true → W p l e R s m args below meth cd H locs cells slots Q (F0 m (pc + len) ls (.ref (base + x) :: S.map (am_mp base xa)))) : W p l e R s m args below meth cd H locs cells slots Q (F0 m pc ls (S.map (am_mp base xa))) := by
  obtain ⟨j, len, h1, h2, h3⟩ := am_chk_cons (fun t e => by cases e) hc
  simp only [am_ins, Bool.or_eq_true, Bool.and_eq_true, decide_eq_true_eq, beq_iff_eq] at h2
  have hg : ls[n]? = some (.val (.ref (base + x))) := hl.2.2.2 n _ hx (fun e => by cases e)
  rcases h2 with ⟨rfl, rfl⟩ | ⟨hn, rfl⟩
  · exact lv_aload C.1 C.2.1 h1 hg (kk _ h3)
  · obtain ⟨k, rfl, hk⟩ := am_nn_eq hn
    exact lv_aload_n C.1 C.2.1 h1 hk hg (kk _ h3)
theorem go_aloadX (C : am_ctx E base xa dC dI cA M p R s m args meth cd) {n x : Nat} (hl : am_lrel base xa L ls (am_mL M)) (hx : L[n]? = some (.retAddr x)) (hc : am_chk M pc (.aload n :: c) = true) (kk : ∀ len, am_chk M (pc + len) c = true → W p l e R s m args below meth cd H locs cells slots Q (F0 m (pc + len) ls (.ref (xa x) :: S.map (am_mp base xa)))) : W p l e R s m args below meth cd H locs cells slots Q (F0 m pc ls (S.map (am_mp base xa))) := by
  obtain ⟨j, len, h1, h2, h3⟩ := am_chk_cons (fun t e => by cases e) hc
  simp only [am_ins, Bool.or_eq_true, Bool.and_eq_true, decide_eq_true_eq, beq_iff_eq] at h2
  have hg : ls[n]? = some (.val (.ref (xa x))) := hl.2.2.2 n _ hx (fun e => by cases e)
  rcases h2 with ⟨rfl, rfl⟩ | ⟨hn, rfl⟩
  · exact lv_aload C.1 C.2.1 h1 hg (kk _ h3)
  · obtain ⟨k, rfl, hk⟩ := am_nn_eq hn
    exact lv_aload_n C.1 C.2.1 h1 hk hg (kk _ h3)
theorem go_istore (C : am_ctx E base xa dC dI cA M p R s m args meth cd) {n : Nat} {x : Int32} (hl : am_lrel base xa L ls (am_mL M)) (hn : n < L.length) (hc : am_chk M pc (.istore n :: c) = true) (kk : ∀ len ls', am_chk M (pc + len) c = true → am_lrel base xa (am_set1 L n (.int x)) ls' (am_mL M) → W p l e R s m args below meth cd H locs cells slots Q (F0 m (pc + len) ls' (S.map (am_mp base xa)))) : W p l e R s m args below meth cd H locs cells slots Q (F0 m pc ls (.int x :: S.map (am_mp base xa))) := by
  obtain ⟨j, len, h1, h2, h3⟩ := am_chk_cons (fun t e => by cases e) hc
  simp only [am_ins, Bool.or_eq_true, Bool.and_eq_true, decide_eq_true_eq, beq_iff_eq] at h2
  rcases h2 with ⟨rfl, rfl⟩ | ⟨hn4, rfl⟩
  · exact lv_istore C.1 C.2.1 h1 hl.has (by rw [← hl.2.1]; exact hn) rfl (fun ls' h9 => kk _ ls' h3 (am_lrel_set1 (v := .int x) hl.2.1 h9))
  · obtain ⟨k, rfl, hk⟩ := am_nn_eq hn4
    exact lv_istore_n C.1 C.2.1 h1 hk hl.has (by rw [← hl.2.1]; exact hn) rfl (fun ls' h9 => kk _ ls' h3 (am_lrel_set1 (v := .int x) hl.2.1 h9))
theorem go_lstore (C : am_ctx E base xa dC dI cA M p R s m args meth cd) {n : Nat} {x : Int64} (hl : am_lrel base xa L ls (am_mL M)) (hn : n + 1 < L.length) (hc : am_chk M pc (.lstore n :: c) = true) (kk : ∀ len ls', am_chk M (pc + len) c = true → am_lrel base xa (am_set2 L n (.long x)) ls' (am_mL M) → W p l e R s m args below meth cd H locs cells slots Q (F0 m (pc + len) ls' (S.map (am_mp base xa)))) : W p l e R s m args below meth cd H locs cells slots Q (F0 m pc ls (.long x :: S.map (am_mp base xa))) := by
  obtain ⟨j, len, h1, h2, h3⟩ := am_chk_cons (fun t e => by cases e) hc
  simp only [am_ins, Bool.or_eq_true, Bool.and_eq_true, decide_eq_true_eq, beq_iff_eq] at h2
  rcases h2 with ⟨rfl, rfl⟩ | ⟨hn4, rfl⟩
  · exact lv_lstore C.1 C.2.1 h1 hl.has (by rw [← hl.2.1]; exact hn) rfl (fun ls' h9 => kk _ ls' h3 (am_lrel_set2 (v := .long x) hl.2.1 hn h9))
  · obtain ⟨k, rfl, hk⟩ := am_nn_eq hn4
    exact lv_lstore_n C.1 C.2.1 h1 hk hl.has (by rw [← hl.2.1]; exact hn) rfl (fun ls' h9 => kk _ ls' h3 (am_lrel_set2 (v := .long x) hl.2.1 hn h9))
theorem go_astore (C : am_ctx E base xa dC dI cA M p R s m args meth cd) {n : Nat} {x : Nat} (hl : am_lrel base xa L ls (am_mL M)) (hn : n < L.length) (hc : am_chk M pc (.astore n :: c) = true) (kk : ∀ len ls', am_chk M (pc + len) c = true → am_lrel base xa (am_set1 L n (.ref x)) ls' (am_mL M) → W p l e R s m args below meth cd H locs cells slots Q (F0 m (pc + len) ls' (S.map (am_mp base xa)))) : W p l e R s m args below meth cd H locs cells slots Q (F0 m pc ls (.ref (base + x) :: S.map (am_mp base xa))) := by
  obtain ⟨j, len, h1, h2, h3⟩ := am_chk_cons (fun t e => by cases e) hc
  simp only [am_ins, Bool.or_eq_true, Bool.and_eq_true, decide_eq_true_eq, beq_iff_eq] at h2
  rcases h2 with ⟨rfl, rfl⟩ | ⟨hn4, rfl⟩
  · exact lv_astore C.1 C.2.1 h1 hl.has (by rw [← hl.2.1]; exact hn) rfl (fun ls' h9 => kk _ ls' h3 (am_lrel_set1 (v := .ref x) hl.2.1 h9))
  · obtain ⟨k, rfl, hk⟩ := am_nn_eq hn4
    exact lv_astore_n C.1 C.2.1 h1 hk hl.has (by rw [← hl.2.1]; exact hn) rfl (fun ls' h9 => kk _ ls' h3 (am_lrel_set1 (v := .ref x) hl.2.1 h9))
theorem go_iinc (C : am_ctx E base xa dC dI cA M p R s m args meth cd) {n : Nat} {v : Int} {x : Int32} (hl : am_lrel base xa L ls (am_mL M)) (hx : L[n]? = some (.int x)) (hc : am_chk M pc (.iinc n v :: c) = true) (kk : ∀ len ls', am_chk M (pc + len) c = true → am_lrel base xa (am_set1 L n (.int (x + Int32.ofInt v))) ls' (am_mL M) → W p l e R s m args below meth cd H locs cells slots Q (F0 m (pc + len) ls' (S.map (am_mp base xa)))) : W p l e R s m args below meth cd H locs cells slots Q (F0 m pc ls (S.map (am_mp base xa))) := by
  obtain ⟨j, len, h1, h2, h3⟩ := am_chk_cons (fun t e => by cases e) hc
  simp only [am_ins, Bool.and_eq_true, decide_eq_true_eq, beq_iff_eq] at h2
  obtain ⟨rfl, rfl⟩ := h2
  have hm : (n, Value.int x) ∈ am_lvs base xa L := am_lvs_mem.mpr ⟨_, hx, (fun e => by cases e), rfl⟩
  obtain ⟨k, hk⟩ := List.getElem?_of_mem hm
  exact lv_iinc C.1 C.2.1 h1 hl.has hk rfl (by rw [← hl.2.1]; exact (List.getElem?_eq_some_iff.mp hx).1) rfl (fun ls' h9 => kk _ ls' h3 (am_lrel_set1 (v := .int (x + Int32.ofInt v)) hl.2.1 h9))
theorem go_goto (C : am_ctx E base xa dC dI cA M p R s m args meth cd) {t : Int} (hc : am_chk M pc (.goto t :: c) = true) (kk : am_chk M t.toNat (am_B M t.toNat) = true → W p l e R s m args below meth cd H locs cells slots Q (F0 m t.toNat ls (S.map (am_mp base xa)))) : W p l e R s m args below meth cd H locs cells slots Q (F0 m pc ls (S.map (am_mp base xa))) := by
  obtain ⟨j, len, h1, h2, h3⟩ := am_chk_cons (fun t e => by cases e) hc
  simp only [am_ins, Bool.and_eq_true, decide_eq_true_eq, beq_iff_eq] at h2
  obtain ⟨⟨rfl, rfl⟩, h4⟩ := h2
  exact lv_goto C.1 C.2.1 h1 (by omega) (kk (am_chkB M _))
theorem go_jsr {t : Int} (hc : am_chk M pc (.jsr t :: c) = true) (kk : am_chk M t.toNat (am_B M t.toNat) = true → W p l e R s m args below meth cd H locs cells slots Q (F0 m t.toNat ls (S.map (am_mp base xa)))) : W p l e R s m args below meth cd H locs cells slots Q (F0 m pc ls (S.map (am_mp base xa))) := by
  have h1 : t = (pc : Int) := by simpa [am_chk] using hc
  have h2 : t.toNat = pc := by omega
  rw [h2] at kk
  exact kk (am_chkB M _)
theorem go_icmp (C : am_ctx E base xa dC dI cA M p R s m args meth cd) {o : Jvm.ClassFile.Cond} {t : Int} {x y : Int32} (hc : am_chk M pc (.if_icmp o t :: c) = true) (kt : am_chk M t.toNat (am_B M t.toNat) = true → am_cond o x y = true → W p l e R s m args below meth cd H locs cells slots Q (F0 m t.toNat ls (S.map (am_mp base xa)))) (kf : am_chk M (pc + 3) c = true → am_cond o x y = false → W p l e R s m args below meth cd H locs cells slots Q (F0 m (pc + 3) ls (S.map (am_mp base xa)))) : W p l e R s m args below meth cd H locs cells slots Q (F0 m pc ls (.int y :: .int x :: S.map (am_mp base xa))) := by
  obtain ⟨j, len, h1, h2, h3⟩ := am_chk_cons (fun t e => by cases e) hc
  simp only [am_ins, Bool.and_eq_true, decide_eq_true_eq, beq_iff_eq] at h2
  obtain ⟨⟨rfl, rfl⟩, h4⟩ := h2
  cases o
  · exact lv_icmp_eq C.1 C.2.1 h1 (by omega) (fun q => kt (am_chkB M _) (decide_eq_true q)) (fun q => kf h3 (decide_eq_false q))
  · exact lv_icmp_ne C.1 C.2.1 h1 (by omega) (fun q => kt (am_chkB M _) (decide_eq_true q)) (fun q => kf h3 (decide_eq_false (fun z => z q)))
  · exact lv_icmp_lt C.1 C.2.1 h1 (by omega) (fun q => kt (am_chkB M _) (decide_eq_true q)) (fun q => kf h3 (decide_eq_false q))
  · exact lv_icmp_ge C.1 C.2.1 h1 (by omega) (fun q => kt (am_chkB M _) (decide_eq_true q)) (fun q => kf h3 (decide_eq_false q))
  · exact lv_icmp_gt C.1 C.2.1 h1 (by omega) (fun q => kt (am_chkB M _) (decide_eq_true q)) (fun q => kf h3 (decide_eq_false q))
  · exact lv_icmp_le C.1 C.2.1 h1 (by omega) (fun q => kt (am_chkB M _) (decide_eq_true q)) (fun q => kf h3 (decide_eq_false q))
theorem go_ifc (C : am_ctx E base xa dC dI cA M p R s m args meth cd) {o : Jvm.ClassFile.Cond} {t : Int} {x : Int32} (hc : am_chk M pc (.ifCond o t :: c) = true) (kt : am_chk M t.toNat (am_B M t.toNat) = true → am_cond o x 0 = true → W p l e R s m args below meth cd H locs cells slots Q (F0 m t.toNat ls (S.map (am_mp base xa)))) (kf : am_chk M (pc + 3) c = true → am_cond o x 0 = false → W p l e R s m args below meth cd H locs cells slots Q (F0 m (pc + 3) ls (S.map (am_mp base xa)))) : W p l e R s m args below meth cd H locs cells slots Q (F0 m pc ls (.int x :: S.map (am_mp base xa))) := by
  obtain ⟨j, len, h1, h2, h3⟩ := am_chk_cons (fun t e => by cases e) hc
  simp only [am_ins, Bool.and_eq_true, decide_eq_true_eq, beq_iff_eq] at h2
  obtain ⟨⟨rfl, rfl⟩, h4⟩ := h2
  cases o
  · exact lv_if_eq C.1 C.2.1 h1 (by omega) (fun q => kt (am_chkB M _) (decide_eq_true q)) (fun q => kf h3 (decide_eq_false q))
  · exact lv_if_ne C.1 C.2.1 h1 (by omega) (fun q => kt (am_chkB M _) (decide_eq_true q)) (fun q => kf h3 (decide_eq_false (fun z => z q)))
  · exact lv_if_lt C.1 C.2.1 h1 (by omega) (fun q => kt (am_chkB M _) (decide_eq_true q)) (fun q => kf h3 (decide_eq_false q))
  · exact lv_if_ge C.1 C.2.1 h1 (by omega) (fun q => kt (am_chkB M _) (decide_eq_true q)) (fun q => kf h3 (decide_eq_false q))
  · exact lv_if_gt C.1 C.2.1 h1 (by omega) (fun q => kt (am_chkB M _) (decide_eq_true q)) (fun q => kf h3 (decide_eq_false q))
  · exact lv_if_le C.1 C.2.1 h1 (by omega) (fun q => kt (am_chkB M _) (decide_eq_true q)) (fun q => kf h3 (decide_eq_false q))
theorem go_tsw (C : am_ctx E base xa dC dI cA M p R s m args meth cd) {d lo hi : Int} {os : Array Int} {x : Int32} (hc : am_chk M pc (.tableswitch d lo hi os :: c) = true) (kk : am_chk M (am_tsw d lo hi os x) (am_B M (am_tsw d lo hi os x)) = true → W p l e R s m args below meth cd H locs cells slots Q (F0 m (am_tsw d lo hi os x) ls (S.map (am_mp base xa)))) : W p l e R s m args below meth cd H locs cells slots Q (F0 m pc ls (.int x :: S.map (am_mp base xa))) := by
  obtain ⟨j, len, h1, h2, h3⟩ := am_chk_cons (fun t e => by cases e) hc
  simp only [am_ins, Bool.and_eq_true, decide_eq_true_eq, beq_iff_eq, List.all_eq_true] at h2
  obtain ⟨⟨⟨rfl, hd⟩, ho⟩, hs⟩ := h2
  have kk := kk (am_chkB M _)
  unfold am_tsw at kk
  by_cases hx : x.toInt < lo ∨ hi < x.toInt
  · rw [if_pos hx] at kk
    exact lv_tableOut C.1 C.2.1 h1 hx (by omega) kk
  · rw [if_neg hx] at kk
    have h5 : (x.toInt - lo).toNat < os.size := by omega
    have h6 : os.toList[(x.toInt - lo).toNat]? = some os[(x.toInt - lo).toNat] := by simp [h5]
    have h7 := ho _ (List.mem_of_getElem? h6)
    rw [h6] at kk
    simp only [Option.getD_some] at kk
    refine lv_tableIn (off := os[(x.toInt - lo).toNat] - pc) C.1 C.2.1 h1 (fun q => hx (Or.inl q)) (fun q => hx (Or.inr q)) (by simp [h5]) (by omega) kk
theorem am_lsw_off (pc : Int) (d : Int) (x : Int) (ps : List (Int × Int)) : Jvm.Op.lookupswitch.offset (ps.map (fun q => (q.1, q.2 - pc))) (d - pc) x = ((ps.find? (fun q => q.1 == x)).map (fun q => q.2)).getD d - pc := by
  induction ps with
  | nil => simp [Jvm.Op.lookupswitch.offset]
  | cons q ps ih =>
    by_cases hq : q.1 = x
    · simp [Jvm.Op.lookupswitch.offset, List.find?_cons, hq]
    · have hq' : (q.1 == x) = false := by simpa using hq
      simp only [List.map_cons, Jvm.Op.lookupswitch.offset, List.find?_cons, hq', hq, if_false]
      simpa using ih
theorem go_lsw (C : am_ctx E base xa dC dI cA M p R s m args meth cd) {d : Int} {ps : Array (Int × Int)} {x : Int32} (hc : am_chk M pc (.lookupswitch d ps :: c) = true) (kk : am_chk M (am_lsw d ps x) (am_B M (am_lsw d ps x)) = true → W p l e R s m args below meth cd H locs cells slots Q (F0 m (am_lsw d ps x) ls (S.map (am_mp base xa)))) : W p l e R s m args below meth cd H locs cells slots Q (F0 m pc ls (.int x :: S.map (am_mp base xa))) := by
  obtain ⟨j, len, h1, h2, h3⟩ := am_chk_cons (fun t e => by cases e) hc
  simp only [am_ins, Bool.and_eq_true, decide_eq_true_eq, beq_iff_eq] at h2
  obtain ⟨⟨⟨rfl, hd⟩, ho⟩, hs⟩ := h2
  have kk := kk (am_chkB M _)
  have h7 : 0 ≤ ((ps.toList.find? (fun q => q.1 == x.toInt)).map (fun q => q.2)).getD d := by
    cases hf : ps.toList.find? (fun q => q.1 == x.toInt) with
    | none => exact hd
    | some q => exact of_decide_eq_true (List.all_eq_true.mp ho q (List.mem_of_find?_eq_some hf))
  have h8 := am_lsw_off (pc : Int) d x.toInt ps.toList
  refine lv_lookup C.1 C.2.1 h1 hs rfl ?_ kk
  rw [Array.toList_map, h8]
  unfold am_lsw
  omega
end Snd
