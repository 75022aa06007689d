/-! ONE STEP, WHATEVER IT IS -/
theorem am_same {h h1 : aH} (e : h1.1 = h.1) (a b : Nat) : a + (h1.1.length - h.1.length) = a ∧ b + (am_sz h1 - am_sz h) = b := by
  unfold am_sz
  rw [e]
  simp
theorem am_more (h : aH) (q : Nat ⊕ (Nat × Nat)) (a b : Nat) : a + ((am_lay h q).1.length - h.1.length) = a + 1 ∧ b + (am_sz (am_lay h q) - am_sz h) = b + (match q with
  | .inl c => am_N c
  | .inr (_, n) => n) := by
  rw [am_sz_lay]
  refine ⟨by simp [am_lay], ?_⟩
  rcases q with c | ⟨t, n⟩ <;> simp
section SndS
variable {E : aE} {base : Nat} {xa : Nat → Nat} {dC : Nat → ClassId} {dI : Nat → Nat → Nat} {cA : Nat → ClassId}
variable {p : Program} {l : Launch} {e : Env} {R : Room} {s : State} {m : MethodId} {args : Array Value} {below : List Frame} {meth : Method} {cd : Code} {H : Heap} {locs : List Loc} {cells slots ce sl : Nat} {Q : State → Prop}
variable {M pc : Nat} {ls : Array Slot} {c0 c c' : List Instr} {L S L' S' : List Value} {h h1 : aH}

theorem gs_iadd (C : am_ctx E base xa dC dI cA M p R s m args meth cd) (hc : am_chk M pc (.iadd :: c) = true) (hl : am_lrel base xa L ls (am_mL M)) (P : am_hp base dC dI cA s h H locs) (hs : am_step E M (.iadd :: c) L S h = some (.inl (c', L', S', h1))) (hce : ce = cells + (h1.1.length - h.1.length)) (hsl : sl = slots + (am_sz h1 - am_sz h)) (hR : ce ≤ R.cells) (hR2 : sl ≤ R.slots) (kk : ∀ pc' ls' H' locs', am_chk M pc' c' = true → am_lrel base xa L' ls' (am_mL M) → am_hp base dC dI cA s h1 H' locs' → W p l e R s m args below meth cd H' locs' ce sl Q (F0 m pc' ls' (S'.map (am_mp base xa)))) : W p l e R s m args below meth cd H locs cells slots Q (F0 m pc ls (S.map (am_mp base xa))) := by
  simp only [am_step] at hs
  split at hs
  · simp only [am_push, Option.some.injEq, Sum.inl.injEq, Prod.mk.injEq] at hs; obtain ⟨rfl, rfl, rfl, rfl⟩ := hs; have hce := hce.trans (am_same (h := h) rfl cells slots).1; have hsl := hsl.trans (am_same (h := h) rfl cells slots).2; subst hce; subst hsl
    exact go_iadd C hc (fun q => kk _ _ _ _ q hl P)
  · cases hs
theorem gs_isub (C : am_ctx E base xa dC dI cA M p R s m args meth cd) (hc : am_chk M pc (.isub :: c) = true) (hl : am_lrel base xa L ls (am_mL M)) (P : am_hp base dC dI cA s h H locs) (hs : am_step E M (.isub :: c) L S h = some (.inl (c', L', S', h1))) (hce : ce = cells + (h1.1.length - h.1.length)) (hsl : sl = slots + (am_sz h1 - am_sz h)) (hR : ce ≤ R.cells) (hR2 : sl ≤ R.slots) (kk : ∀ pc' ls' H' locs', am_chk M pc' c' = true → am_lrel base xa L' ls' (am_mL M) → am_hp base dC dI cA s h1 H' locs' → W p l e R s m args below meth cd H' locs' ce sl Q (F0 m pc' ls' (S'.map (am_mp base xa)))) : W p l e R s m args below meth cd H locs cells slots Q (F0 m pc ls (S.map (am_mp base xa))) := by
  simp only [am_step] at hs
  split at hs
  · simp only [am_push, Option.some.injEq, Sum.inl.injEq, Prod.mk.injEq] at hs; obtain ⟨rfl, rfl, rfl, rfl⟩ := hs; have hce := hce.trans (am_same (h := h) rfl cells slots).1; have hsl := hsl.trans (am_same (h := h) rfl cells slots).2; subst hce; subst hsl
    exact go_isub C hc (fun q => kk _ _ _ _ q hl P)
  · cases hs
theorem gs_imul (C : am_ctx E base xa dC dI cA M p R s m args meth cd) (hc : am_chk M pc (.imul :: c) = true) (hl : am_lrel base xa L ls (am_mL M)) (P : am_hp base dC dI cA s h H locs) (hs : am_step E M (.imul :: c) L S h = some (.inl (c', L', S', h1))) (hce : ce = cells + (h1.1.length - h.1.length)) (hsl : sl = slots + (am_sz h1 - am_sz h)) (hR : ce ≤ R.cells) (hR2 : sl ≤ R.slots) (kk : ∀ pc' ls' H' locs', am_chk M pc' c' = true → am_lrel base xa L' ls' (am_mL M) → am_hp base dC dI cA s h1 H' locs' → W p l e R s m args below meth cd H' locs' ce sl Q (F0 m pc' ls' (S'.map (am_mp base xa)))) : W p l e R s m args below meth cd H locs cells slots Q (F0 m pc ls (S.map (am_mp base xa))) := by
  simp only [am_step] at hs
  split at hs
  · simp only [am_push, Option.some.injEq, Sum.inl.injEq, Prod.mk.injEq] at hs; obtain ⟨rfl, rfl, rfl, rfl⟩ := hs; have hce := hce.trans (am_same (h := h) rfl cells slots).1; have hsl := hsl.trans (am_same (h := h) rfl cells slots).2; subst hce; subst hsl
    exact go_imul C hc (fun q => kk _ _ _ _ q hl P)
  · cases hs
theorem gs_iand (C : am_ctx E base xa dC dI cA M p R s m args meth cd) (hc : am_chk M pc (.iand :: c) = true) (hl : am_lrel base xa L ls (am_mL M)) (P : am_hp base dC dI cA s h H locs) (hs : am_step E M (.iand :: c) L S h = some (.inl (c', L', S', h1))) (hce : ce = cells + (h1.1.length - h.1.length)) (hsl : sl = slots + (am_sz h1 - am_sz h)) (hR : ce ≤ R.cells) (hR2 : sl ≤ R.slots) (kk : ∀ pc' ls' H' locs', am_chk M pc' c' = true → am_lrel base xa L' ls' (am_mL M) → am_hp base dC dI cA s h1 H' locs' → W p l e R s m args below meth cd H' locs' ce sl Q (F0 m pc' ls' (S'.map (am_mp base xa)))) : W p l e R s m args below meth cd H locs cells slots Q (F0 m pc ls (S.map (am_mp base xa))) := by
  simp only [am_step] at hs
  split at hs
  · simp only [am_push, Option.some.injEq, Sum.inl.injEq, Prod.mk.injEq] at hs; obtain ⟨rfl, rfl, rfl, rfl⟩ := hs; have hce := hce.trans (am_same (h := h) rfl cells slots).1; have hsl := hsl.trans (am_same (h := h) rfl cells slots).2; subst hce; subst hsl
    exact go_iand C hc (fun q => kk _ _ _ _ q hl P)
  · cases hs
theorem gs_ior (C : am_ctx E base xa dC dI cA M p R s m args meth cd) (hc : am_chk M pc (.ior :: c) = true) (hl : am_lrel base xa L ls (am_mL M)) (P : am_hp base dC dI cA s h H locs) (hs : am_step E M (.ior :: c) L S h = some (.inl (c', L', S', h1))) (hce : ce = cells + (h1.1.length - h.1.length)) (hsl : sl = slots + (am_sz h1 - am_sz h)) (hR : ce ≤ R.cells) (hR2 : sl ≤ R.slots) (kk : ∀ pc' ls' H' locs', am_chk M pc' c' = true → am_lrel base xa L' ls' (am_mL M) → am_hp base dC dI cA s h1 H' locs' → W p l e R s m args below meth cd H' locs' ce sl Q (F0 m pc' ls' (S'.map (am_mp base xa)))) : W p l e R s m args below meth cd H locs cells slots Q (F0 m pc ls (S.map (am_mp base xa))) := by
  simp only [am_step] at hs
  split at hs
  · simp only [am_push, Option.some.injEq, Sum.inl.injEq, Prod.mk.injEq] at hs; obtain ⟨rfl, rfl, rfl, rfl⟩ := hs; have hce := hce.trans (am_same (h := h) rfl cells slots).1; have hsl := hsl.trans (am_same (h := h) rfl cells slots).2; subst hce; subst hsl
    exact go_ior C hc (fun q => kk _ _ _ _ q hl P)
  · cases hs
theorem gs_ixor (C : am_ctx E base xa dC dI cA M p R s m args meth cd) (hc : am_chk M pc (.ixor :: c) = true) (hl : am_lrel base xa L ls (am_mL M)) (P : am_hp base dC dI cA s h H locs) (hs : am_step E M (.ixor :: c) L S h = some (.inl (c', L', S', h1))) (hce : ce = cells + (h1.1.length - h.1.length)) (hsl : sl = slots + (am_sz h1 - am_sz h)) (hR : ce ≤ R.cells) (hR2 : sl ≤ R.slots) (kk : ∀ pc' ls' H' locs', am_chk M pc' c' = true → am_lrel base xa L' ls' (am_mL M) → am_hp base dC dI cA s h1 H' locs' → W p l e R s m args below meth cd H' locs' ce sl Q (F0 m pc' ls' (S'.map (am_mp base xa)))) : W p l e R s m args below meth cd H locs cells slots Q (F0 m pc ls (S.map (am_mp base xa))) := by
  simp only [am_step] at hs
  split at hs
  · simp only [am_push, Option.some.injEq, Sum.inl.injEq, Prod.mk.injEq] at hs; obtain ⟨rfl, rfl, rfl, rfl⟩ := hs; have hce := hce.trans (am_same (h := h) rfl cells slots).1; have hsl := hsl.trans (am_same (h := h) rfl cells slots).2; subst hce; subst hsl
    exact go_ixor C hc (fun q => kk _ _ _ _ q hl P)
  · cases hs
theorem gs_ishl (C : am_ctx E base xa dC dI cA M p R s m args meth cd) (hc : am_chk M pc (.ishl :: c) = true) (hl : am_lrel base xa L ls (am_mL M)) (P : am_hp base dC dI cA s h H locs) (hs : am_step E M (.ishl :: c) L S h = some (.inl (c', L', S', h1))) (hce : ce = cells + (h1.1.length - h.1.length)) (hsl : sl = slots + (am_sz h1 - am_sz h)) (hR : ce ≤ R.cells) (hR2 : sl ≤ R.slots) (kk : ∀ pc' ls' H' locs', am_chk M pc' c' = true → am_lrel base xa L' ls' (am_mL M) → am_hp base dC dI cA s h1 H' locs' → W p l e R s m args below meth cd H' locs' ce sl Q (F0 m pc' ls' (S'.map (am_mp base xa)))) : W p l e R s m args below meth cd H locs cells slots Q (F0 m pc ls (S.map (am_mp base xa))) := by
  simp only [am_step] at hs
  split at hs
  · simp only [am_push, Option.some.injEq, Sum.inl.injEq, Prod.mk.injEq] at hs; obtain ⟨rfl, rfl, rfl, rfl⟩ := hs; have hce := hce.trans (am_same (h := h) rfl cells slots).1; have hsl := hsl.trans (am_same (h := h) rfl cells slots).2; subst hce; subst hsl
    exact go_ishl C hc (fun q => kk _ _ _ _ q hl P)
  · cases hs
theorem gs_ishr (C : am_ctx E base xa dC dI cA M p R s m args meth cd) (hc : am_chk M pc (.ishr :: c) = true) (hl : am_lrel base xa L ls (am_mL M)) (P : am_hp base dC dI cA s h H locs) (hs : am_step E M (.ishr :: c) L S h = some (.inl (c', L', S', h1))) (hce : ce = cells + (h1.1.length - h.1.length)) (hsl : sl = slots + (am_sz h1 - am_sz h)) (hR : ce ≤ R.cells) (hR2 : sl ≤ R.slots) (kk : ∀ pc' ls' H' locs', am_chk M pc' c' = true → am_lrel base xa L' ls' (am_mL M) → am_hp base dC dI cA s h1 H' locs' → W p l e R s m args below meth cd H' locs' ce sl Q (F0 m pc' ls' (S'.map (am_mp base xa)))) : W p l e R s m args below meth cd H locs cells slots Q (F0 m pc ls (S.map (am_mp base xa))) := by
  simp only [am_step] at hs
  split at hs
  · simp only [am_push, Option.some.injEq, Sum.inl.injEq, Prod.mk.injEq] at hs; obtain ⟨rfl, rfl, rfl, rfl⟩ := hs; have hce := hce.trans (am_same (h := h) rfl cells slots).1; have hsl := hsl.trans (am_same (h := h) rfl cells slots).2; subst hce; subst hsl
    exact go_ishr C hc (fun q => kk _ _ _ _ q hl P)
  · cases hs
theorem gs_ineg (C : am_ctx E base xa dC dI cA M p R s m args meth cd) (hc : am_chk M pc (.ineg :: c) = true) (hl : am_lrel base xa L ls (am_mL M)) (P : am_hp base dC dI cA s h H locs) (hs : am_step E M (.ineg :: c) L S h = some (.inl (c', L', S', h1))) (hce : ce = cells + (h1.1.length - h.1.length)) (hsl : sl = slots + (am_sz h1 - am_sz h)) (hR : ce ≤ R.cells) (hR2 : sl ≤ R.slots) (kk : ∀ pc' ls' H' locs', am_chk M pc' c' = true → am_lrel base xa L' ls' (am_mL M) → am_hp base dC dI cA s h1 H' locs' → W p l e R s m args below meth cd H' locs' ce sl Q (F0 m pc' ls' (S'.map (am_mp base xa)))) : W p l e R s m args below meth cd H locs cells slots Q (F0 m pc ls (S.map (am_mp base xa))) := by
  simp only [am_step] at hs
  split at hs
  · simp only [am_push, Option.some.injEq, Sum.inl.injEq, Prod.mk.injEq] at hs; obtain ⟨rfl, rfl, rfl, rfl⟩ := hs; have hce := hce.trans (am_same (h := h) rfl cells slots).1; have hsl := hsl.trans (am_same (h := h) rfl cells slots).2; subst hce; subst hsl
    exact go_ineg C hc (fun q => kk _ _ _ _ q hl P)
  · cases hs
theorem gs_ladd (C : am_ctx E base xa dC dI cA M p R s m args meth cd) (hc : am_chk M pc (.ladd :: c) = true) (hl : am_lrel base xa L ls (am_mL M)) (P : am_hp base dC dI cA s h H locs) (hs : am_step E M (.ladd :: c) L S h = some (.inl (c', L', S', h1))) (hce : ce = cells + (h1.1.length - h.1.length)) (hsl : sl = slots + (am_sz h1 - am_sz h)) (hR : ce ≤ R.cells) (hR2 : sl ≤ R.slots) (kk : ∀ pc' ls' H' locs', am_chk M pc' c' = true → am_lrel base xa L' ls' (am_mL M) → am_hp base dC dI cA s h1 H' locs' → W p l e R s m args below meth cd H' locs' ce sl Q (F0 m pc' ls' (S'.map (am_mp base xa)))) : W p l e R s m args below meth cd H locs cells slots Q (F0 m pc ls (S.map (am_mp base xa))) := by
  simp only [am_step] at hs
  split at hs
  · simp only [am_push, Option.some.injEq, Sum.inl.injEq, Prod.mk.injEq] at hs; obtain ⟨rfl, rfl, rfl, rfl⟩ := hs; have hce := hce.trans (am_same (h := h) rfl cells slots).1; have hsl := hsl.trans (am_same (h := h) rfl cells slots).2; subst hce; subst hsl
    exact go_ladd C hc (fun q => kk _ _ _ _ q hl P)
  · cases hs
theorem gs_lsub (C : am_ctx E base xa dC dI cA M p R s m args meth cd) (hc : am_chk M pc (.lsub :: c) = true) (hl : am_lrel base xa L ls (am_mL M)) (P : am_hp base dC dI cA s h H locs) (hs : am_step E M (.lsub :: c) L S h = some (.inl (c', L', S', h1))) (hce : ce = cells + (h1.1.length - h.1.length)) (hsl : sl = slots + (am_sz h1 - am_sz h)) (hR : ce ≤ R.cells) (hR2 : sl ≤ R.slots) (kk : ∀ pc' ls' H' locs', am_chk M pc' c' = true → am_lrel base xa L' ls' (am_mL M) → am_hp base dC dI cA s h1 H' locs' → W p l e R s m args below meth cd H' locs' ce sl Q (F0 m pc' ls' (S'.map (am_mp base xa)))) : W p l e R s m args below meth cd H locs cells slots Q (F0 m pc ls (S.map (am_mp base xa))) := by
  simp only [am_step] at hs
  split at hs
  · simp only [am_push, Option.some.injEq, Sum.inl.injEq, Prod.mk.injEq] at hs; obtain ⟨rfl, rfl, rfl, rfl⟩ := hs; have hce := hce.trans (am_same (h := h) rfl cells slots).1; have hsl := hsl.trans (am_same (h := h) rfl cells slots).2; subst hce; subst hsl
    exact go_lsub C hc (fun q => kk _ _ _ _ q hl P)
  · cases hs
theorem gs_lmul (C : am_ctx E base xa dC dI cA M p R s m args meth cd) (hc : am_chk M pc (.lmul :: c) = true) (hl : am_lrel base xa L ls (am_mL M)) (P : am_hp base dC dI cA s h H locs) (hs : am_step E M (.lmul :: c) L S h = some (.inl (c', L', S', h1))) (hce : ce = cells + (h1.1.length - h.1.length)) (hsl : sl = slots + (am_sz h1 - am_sz h)) (hR : ce ≤ R.cells) (hR2 : sl ≤ R.slots) (kk : ∀ pc' ls' H' locs', am_chk M pc' c' = true → am_lrel base xa L' ls' (am_mL M) → am_hp base dC dI cA s h1 H' locs' → W p l e R s m args below meth cd H' locs' ce sl Q (F0 m pc' ls' (S'.map (am_mp base xa)))) : W p l e R s m args below meth cd H locs cells slots Q (F0 m pc ls (S.map (am_mp base xa))) := by
  simp only [am_step] at hs
  split at hs
  · simp only [am_push, Option.some.injEq, Sum.inl.injEq, Prod.mk.injEq] at hs; obtain ⟨rfl, rfl, rfl, rfl⟩ := hs; have hce := hce.trans (am_same (h := h) rfl cells slots).1; have hsl := hsl.trans (am_same (h := h) rfl cells slots).2; subst hce; subst hsl
    exact go_lmul C hc (fun q => kk _ _ _ _ q hl P)
  · cases hs
theorem gs_lneg (C : am_ctx E base xa dC dI cA M p R s m args meth cd) (hc : am_chk M pc (.lneg :: c) = true) (hl : am_lrel base xa L ls (am_mL M)) (P : am_hp base dC dI cA s h H locs) (hs : am_step E M (.lneg :: c) L S h = some (.inl (c', L', S', h1))) (hce : ce = cells + (h1.1.length - h.1.length)) (hsl : sl = slots + (am_sz h1 - am_sz h)) (hR : ce ≤ R.cells) (hR2 : sl ≤ R.slots) (kk : ∀ pc' ls' H' locs', am_chk M pc' c' = true → am_lrel base xa L' ls' (am_mL M) → am_hp base dC dI cA s h1 H' locs' → W p l e R s m args below meth cd H' locs' ce sl Q (F0 m pc' ls' (S'.map (am_mp base xa)))) : W p l e R s m args below meth cd H locs cells slots Q (F0 m pc ls (S.map (am_mp base xa))) := by
  simp only [am_step] at hs
  split at hs
  · simp only [am_push, Option.some.injEq, Sum.inl.injEq, Prod.mk.injEq] at hs; obtain ⟨rfl, rfl, rfl, rfl⟩ := hs; have hce := hce.trans (am_same (h := h) rfl cells slots).1; have hsl := hsl.trans (am_same (h := h) rfl cells slots).2; subst hce; subst hsl
    exact go_lneg C hc (fun q => kk _ _ _ _ q hl P)
  · cases hs
theorem gs_lcmp (C : am_ctx E base xa dC dI cA M p R s m args meth cd) (hc : am_chk M pc (.lcmp :: c) = true) (hl : am_lrel base xa L ls (am_mL M)) (P : am_hp base dC dI cA s h H locs) (hs : am_step E M (.lcmp :: c) L S h = some (.inl (c', L', S', h1))) (hce : ce = cells + (h1.1.length - h.1.length)) (hsl : sl = slots + (am_sz h1 - am_sz h)) (hR : ce ≤ R.cells) (hR2 : sl ≤ R.slots) (kk : ∀ pc' ls' H' locs', am_chk M pc' c' = true → am_lrel base xa L' ls' (am_mL M) → am_hp base dC dI cA s h1 H' locs' → W p l e R s m args below meth cd H' locs' ce sl Q (F0 m pc' ls' (S'.map (am_mp base xa)))) : W p l e R s m args below meth cd H locs cells slots Q (F0 m pc ls (S.map (am_mp base xa))) := by
  simp only [am_step] at hs
  split at hs
  · simp only [am_push, Option.some.injEq, Sum.inl.injEq, Prod.mk.injEq] at hs; obtain ⟨rfl, rfl, rfl, rfl⟩ := hs; have hce := hce.trans (am_same (h := h) rfl cells slots).1; have hsl := hsl.trans (am_same (h := h) rfl cells slots).2; subst hce; subst hsl
    exact go_lcmp C hc (fun q => kk _ _ _ _ q hl P)
  · cases hs
theorem gs_i2l (C : am_ctx E base xa dC dI cA M p R s m args meth cd) (hc : am_chk M pc (.i2l :: c) = true) (hl : am_lrel base xa L ls (am_mL M)) (P : am_hp base dC dI cA s h H locs) (hs : am_step E M (.i2l :: c) L S h = some (.inl (c', L', S', h1))) (hce : ce = cells + (h1.1.length - h.1.length)) (hsl : sl = slots + (am_sz h1 - am_sz h)) (hR : ce ≤ R.cells) (hR2 : sl ≤ R.slots) (kk : ∀ pc' ls' H' locs', am_chk M pc' c' = true → am_lrel base xa L' ls' (am_mL M) → am_hp base dC dI cA s h1 H' locs' → W p l e R s m args below meth cd H' locs' ce sl Q (F0 m pc' ls' (S'.map (am_mp base xa)))) : W p l e R s m args below meth cd H locs cells slots Q (F0 m pc ls (S.map (am_mp base xa))) := by
  simp only [am_step] at hs
  split at hs
  · simp only [am_push, Option.some.injEq, Sum.inl.injEq, Prod.mk.injEq] at hs; obtain ⟨rfl, rfl, rfl, rfl⟩ := hs; have hce := hce.trans (am_same (h := h) rfl cells slots).1; have hsl := hsl.trans (am_same (h := h) rfl cells slots).2; subst hce; subst hsl
    exact go_i2l C hc (fun q => kk _ _ _ _ q hl P)
  · cases hs
theorem gs_i2b (C : am_ctx E base xa dC dI cA M p R s m args meth cd) (hc : am_chk M pc (.i2b :: c) = true) (hl : am_lrel base xa L ls (am_mL M)) (P : am_hp base dC dI cA s h H locs) (hs : am_step E M (.i2b :: c) L S h = some (.inl (c', L', S', h1))) (hce : ce = cells + (h1.1.length - h.1.length)) (hsl : sl = slots + (am_sz h1 - am_sz h)) (hR : ce ≤ R.cells) (hR2 : sl ≤ R.slots) (kk : ∀ pc' ls' H' locs', am_chk M pc' c' = true → am_lrel base xa L' ls' (am_mL M) → am_hp base dC dI cA s h1 H' locs' → W p l e R s m args below meth cd H' locs' ce sl Q (F0 m pc' ls' (S'.map (am_mp base xa)))) : W p l e R s m args below meth cd H locs cells slots Q (F0 m pc ls (S.map (am_mp base xa))) := by
  simp only [am_step] at hs
  split at hs
  · simp only [am_push, Option.some.injEq, Sum.inl.injEq, Prod.mk.injEq] at hs; obtain ⟨rfl, rfl, rfl, rfl⟩ := hs; have hce := hce.trans (am_same (h := h) rfl cells slots).1; have hsl := hsl.trans (am_same (h := h) rfl cells slots).2; subst hce; subst hsl
    exact go_i2b C hc (fun q => kk _ _ _ _ q hl P)
  · cases hs
theorem gs_i2s (C : am_ctx E base xa dC dI cA M p R s m args meth cd) (hc : am_chk M pc (.i2s :: c) = true) (hl : am_lrel base xa L ls (am_mL M)) (P : am_hp base dC dI cA s h H locs) (hs : am_step E M (.i2s :: c) L S h = some (.inl (c', L', S', h1))) (hce : ce = cells + (h1.1.length - h.1.length)) (hsl : sl = slots + (am_sz h1 - am_sz h)) (hR : ce ≤ R.cells) (hR2 : sl ≤ R.slots) (kk : ∀ pc' ls' H' locs', am_chk M pc' c' = true → am_lrel base xa L' ls' (am_mL M) → am_hp base dC dI cA s h1 H' locs' → W p l e R s m args below meth cd H' locs' ce sl Q (F0 m pc' ls' (S'.map (am_mp base xa)))) : W p l e R s m args below meth cd H locs cells slots Q (F0 m pc ls (S.map (am_mp base xa))) := by
  simp only [am_step] at hs
  split at hs
  · simp only [am_push, Option.some.injEq, Sum.inl.injEq, Prod.mk.injEq] at hs; obtain ⟨rfl, rfl, rfl, rfl⟩ := hs; have hce := hce.trans (am_same (h := h) rfl cells slots).1; have hsl := hsl.trans (am_same (h := h) rfl cells slots).2; subst hce; subst hsl
    exact go_i2s C hc (fun q => kk _ _ _ _ q hl P)
  · cases hs
theorem gs_idiv (C : am_ctx E base xa dC dI cA M p R s m args meth cd) (hc : am_chk M pc (.idiv :: c) = true) (hl : am_lrel base xa L ls (am_mL M)) (P : am_hp base dC dI cA s h H locs) (hs : am_step E M (.idiv :: c) L S h = some (.inl (c', L', S', h1))) (hce : ce = cells + (h1.1.length - h.1.length)) (hsl : sl = slots + (am_sz h1 - am_sz h)) (hR : ce ≤ R.cells) (hR2 : sl ≤ R.slots) (kk : ∀ pc' ls' H' locs', am_chk M pc' c' = true → am_lrel base xa L' ls' (am_mL M) → am_hp base dC dI cA s h1 H' locs' → W p l e R s m args below meth cd H' locs' ce sl Q (F0 m pc' ls' (S'.map (am_mp base xa)))) : W p l e R s m args below meth cd H locs cells slots Q (F0 m pc ls (S.map (am_mp base xa))) := by
  simp only [am_step] at hs
  split at hs
  · split at hs
    · cases hs
    · rename_i hy
      simp only [am_push, Option.some.injEq, Sum.inl.injEq, Prod.mk.injEq] at hs; obtain ⟨rfl, rfl, rfl, rfl⟩ := hs; have hce := hce.trans (am_same (h := h) rfl cells slots).1; have hsl := hsl.trans (am_same (h := h) rfl cells slots).2; subst hce; subst hsl
      exact go_idiv C hy hc (fun q => kk _ _ _ _ q hl P)
  · cases hs
theorem gs_irem (C : am_ctx E base xa dC dI cA M p R s m args meth cd) (hc : am_chk M pc (.irem :: c) = true) (hl : am_lrel base xa L ls (am_mL M)) (P : am_hp base dC dI cA s h H locs) (hs : am_step E M (.irem :: c) L S h = some (.inl (c', L', S', h1))) (hce : ce = cells + (h1.1.length - h.1.length)) (hsl : sl = slots + (am_sz h1 - am_sz h)) (hR : ce ≤ R.cells) (hR2 : sl ≤ R.slots) (kk : ∀ pc' ls' H' locs', am_chk M pc' c' = true → am_lrel base xa L' ls' (am_mL M) → am_hp base dC dI cA s h1 H' locs' → W p l e R s m args below meth cd H' locs' ce sl Q (F0 m pc' ls' (S'.map (am_mp base xa)))) : W p l e R s m args below meth cd H locs cells slots Q (F0 m pc ls (S.map (am_mp base xa))) := by
  simp only [am_step] at hs
  split at hs
  · split at hs
    · cases hs
    · rename_i hy
      simp only [am_push, Option.some.injEq, Sum.inl.injEq, Prod.mk.injEq] at hs; obtain ⟨rfl, rfl, rfl, rfl⟩ := hs; have hce := hce.trans (am_same (h := h) rfl cells slots).1; have hsl := hsl.trans (am_same (h := h) rfl cells slots).2; subst hce; subst hsl
      exact go_irem C hy hc (fun q => kk _ _ _ _ q hl P)
  · cases hs
theorem gs_ldiv (C : am_ctx E base xa dC dI cA M p R s m args meth cd) (hc : am_chk M pc (.ldiv :: c) = true) (hl : am_lrel base xa L ls (am_mL M)) (P : am_hp base dC dI cA s h H locs) (hs : am_step E M (.ldiv :: c) L S h = some (.inl (c', L', S', h1))) (hce : ce = cells + (h1.1.length - h.1.length)) (hsl : sl = slots + (am_sz h1 - am_sz h)) (hR : ce ≤ R.cells) (hR2 : sl ≤ R.slots) (kk : ∀ pc' ls' H' locs', am_chk M pc' c' = true → am_lrel base xa L' ls' (am_mL M) → am_hp base dC dI cA s h1 H' locs' → W p l e R s m args below meth cd H' locs' ce sl Q (F0 m pc' ls' (S'.map (am_mp base xa)))) : W p l e R s m args below meth cd H locs cells slots Q (F0 m pc ls (S.map (am_mp base xa))) := by
  simp only [am_step] at hs
  split at hs
  · split at hs
    · cases hs
    · rename_i hy
      simp only [am_push, Option.some.injEq, Sum.inl.injEq, Prod.mk.injEq] at hs; obtain ⟨rfl, rfl, rfl, rfl⟩ := hs; have hce := hce.trans (am_same (h := h) rfl cells slots).1; have hsl := hsl.trans (am_same (h := h) rfl cells slots).2; subst hce; subst hsl
      exact go_ldiv C hy hc (fun q => kk _ _ _ _ q hl P)
  · cases hs
theorem gs_lrem (C : am_ctx E base xa dC dI cA M p R s m args meth cd) (hc : am_chk M pc (.lrem :: c) = true) (hl : am_lrel base xa L ls (am_mL M)) (P : am_hp base dC dI cA s h H locs) (hs : am_step E M (.lrem :: c) L S h = some (.inl (c', L', S', h1))) (hce : ce = cells + (h1.1.length - h.1.length)) (hsl : sl = slots + (am_sz h1 - am_sz h)) (hR : ce ≤ R.cells) (hR2 : sl ≤ R.slots) (kk : ∀ pc' ls' H' locs', am_chk M pc' c' = true → am_lrel base xa L' ls' (am_mL M) → am_hp base dC dI cA s h1 H' locs' → W p l e R s m args below meth cd H' locs' ce sl Q (F0 m pc' ls' (S'.map (am_mp base xa)))) : W p l e R s m args below meth cd H locs cells slots Q (F0 m pc ls (S.map (am_mp base xa))) := by
  simp only [am_step] at hs
  split at hs
  · split at hs
    · cases hs
    · rename_i hy
      simp only [am_push, Option.some.injEq, Sum.inl.injEq, Prod.mk.injEq] at hs; obtain ⟨rfl, rfl, rfl, rfl⟩ := hs; have hce := hce.trans (am_same (h := h) rfl cells slots).1; have hsl := hsl.trans (am_same (h := h) rfl cells slots).2; subst hce; subst hsl
      exact go_lrem C hy hc (fun q => kk _ _ _ _ q hl P)
  · cases hs
theorem gs_dup (C : am_ctx E base xa dC dI cA M p R s m args meth cd) (hc : am_chk M pc (.dup :: c) = true) (hl : am_lrel base xa L ls (am_mL M)) (P : am_hp base dC dI cA s h H locs) (hs : am_step E M (.dup :: c) L S h = some (.inl (c', L', S', h1))) (hce : ce = cells + (h1.1.length - h.1.length)) (hsl : sl = slots + (am_sz h1 - am_sz h)) (hR : ce ≤ R.cells) (hR2 : sl ≤ R.slots) (kk : ∀ pc' ls' H' locs', am_chk M pc' c' = true → am_lrel base xa L' ls' (am_mL M) → am_hp base dC dI cA s h1 H' locs' → W p l e R s m args below meth cd H' locs' ce sl Q (F0 m pc' ls' (S'.map (am_mp base xa)))) : W p l e R s m args below meth cd H locs cells slots Q (F0 m pc ls (S.map (am_mp base xa))) := by
  simp only [am_step] at hs
  split at hs
  · simp only [am_push, Option.some.injEq, Sum.inl.injEq, Prod.mk.injEq] at hs; obtain ⟨rfl, rfl, rfl, rfl⟩ := hs; have hce := hce.trans (am_same (h := h) rfl cells slots).1; have hsl := hsl.trans (am_same (h := h) rfl cells slots).2; subst hce; subst hsl
    exact go_dup C rfl hc (fun q => kk _ _ _ _ q hl P)
  · simp only [am_push, Option.some.injEq, Sum.inl.injEq, Prod.mk.injEq] at hs; obtain ⟨rfl, rfl, rfl, rfl⟩ := hs; have hce := hce.trans (am_same (h := h) rfl cells slots).1; have hsl := hsl.trans (am_same (h := h) rfl cells slots).2; subst hce; subst hsl
    exact go_dup C rfl hc (fun q => kk _ _ _ _ q hl P)
  · cases hs
theorem gs_dup2 (C : am_ctx E base xa dC dI cA M p R s m args meth cd) (hc : am_chk M pc (.dup2 :: c) = true) (hl : am_lrel base xa L ls (am_mL M)) (P : am_hp base dC dI cA s h H locs) (hs : am_step E M (.dup2 :: c) L S h = some (.inl (c', L', S', h1))) (hce : ce = cells + (h1.1.length - h.1.length)) (hsl : sl = slots + (am_sz h1 - am_sz h)) (hR : ce ≤ R.cells) (hR2 : sl ≤ R.slots) (kk : ∀ pc' ls' H' locs', am_chk M pc' c' = true → am_lrel base xa L' ls' (am_mL M) → am_hp base dC dI cA s h1 H' locs' → W p l e R s m args below meth cd H' locs' ce sl Q (F0 m pc' ls' (S'.map (am_mp base xa)))) : W p l e R s m args below meth cd H locs cells slots Q (F0 m pc ls (S.map (am_mp base xa))) := by
  simp only [am_step] at hs
  split at hs
  · simp only [am_push, Option.some.injEq, Sum.inl.injEq, Prod.mk.injEq] at hs; obtain ⟨rfl, rfl, rfl, rfl⟩ := hs; have hce := hce.trans (am_same (h := h) rfl cells slots).1; have hsl := hsl.trans (am_same (h := h) rfl cells slots).2; subst hce; subst hsl
    exact go_dup2 C rfl rfl hc (fun q => kk _ _ _ _ q hl P)
  · cases hs
theorem gs_pop (C : am_ctx E base xa dC dI cA M p R s m args meth cd) (hc : am_chk M pc (.pop :: c) = true) (hl : am_lrel base xa L ls (am_mL M)) (P : am_hp base dC dI cA s h H locs) (hs : am_step E M (.pop :: c) L S h = some (.inl (c', L', S', h1))) (hce : ce = cells + (h1.1.length - h.1.length)) (hsl : sl = slots + (am_sz h1 - am_sz h)) (hR : ce ≤ R.cells) (hR2 : sl ≤ R.slots) (kk : ∀ pc' ls' H' locs', am_chk M pc' c' = true → am_lrel base xa L' ls' (am_mL M) → am_hp base dC dI cA s h1 H' locs' → W p l e R s m args below meth cd H' locs' ce sl Q (F0 m pc' ls' (S'.map (am_mp base xa)))) : W p l e R s m args below meth cd H locs cells slots Q (F0 m pc ls (S.map (am_mp base xa))) := by
  simp only [am_step] at hs
  split at hs
  · simp only [am_push, Option.some.injEq, Sum.inl.injEq, Prod.mk.injEq] at hs; obtain ⟨rfl, rfl, rfl, rfl⟩ := hs; have hce := hce.trans (am_same (h := h) rfl cells slots).1; have hsl := hsl.trans (am_same (h := h) rfl cells slots).2; subst hce; subst hsl
    exact go_pop C rfl hc (fun q => kk _ _ _ _ q hl P)
  · cases hs
theorem gs_pop2 (C : am_ctx E base xa dC dI cA M p R s m args meth cd) (hc : am_chk M pc (.pop2 :: c) = true) (hl : am_lrel base xa L ls (am_mL M)) (P : am_hp base dC dI cA s h H locs) (hs : am_step E M (.pop2 :: c) L S h = some (.inl (c', L', S', h1))) (hce : ce = cells + (h1.1.length - h.1.length)) (hsl : sl = slots + (am_sz h1 - am_sz h)) (hR : ce ≤ R.cells) (hR2 : sl ≤ R.slots) (kk : ∀ pc' ls' H' locs', am_chk M pc' c' = true → am_lrel base xa L' ls' (am_mL M) → am_hp base dC dI cA s h1 H' locs' → W p l e R s m args below meth cd H' locs' ce sl Q (F0 m pc' ls' (S'.map (am_mp base xa)))) : W p l e R s m args below meth cd H locs cells slots Q (F0 m pc ls (S.map (am_mp base xa))) := by
  simp only [am_step] at hs
  split at hs
  · split at hs
    · rename_i h4
      simp only [am_push, Option.some.injEq, Sum.inl.injEq, Prod.mk.injEq] at hs; obtain ⟨rfl, rfl, rfl, rfl⟩ := hs; have hce := hce.trans (am_same (h := h) rfl cells slots).1; have hsl := hsl.trans (am_same (h := h) rfl cells slots).2; subst hce; subst hsl
      exact go_objinit C hl.1 h4 hc (fun q => kk _ _ _ _ q hl P)
    · cases hs
  · cases hs
theorem gs_fadd (C : am_ctx E base xa dC dI cA M p R s m args meth cd) (hc : am_chk M pc (.fadd :: c) = true) (hl : am_lrel base xa L ls (am_mL M)) (P : am_hp base dC dI cA s h H locs) (hs : am_step E M (.fadd :: c) L S h = some (.inl (c', L', S', h1))) (hce : ce = cells + (h1.1.length - h.1.length)) (hsl : sl = slots + (am_sz h1 - am_sz h)) (hR : ce ≤ R.cells) (hR2 : sl ≤ R.slots) (kk : ∀ pc' ls' H' locs', am_chk M pc' c' = true → am_lrel base xa L' ls' (am_mL M) → am_hp base dC dI cA s h1 H' locs' → W p l e R s m args below meth cd H' locs' ce sl Q (F0 m pc' ls' (S'.map (am_mp base xa)))) : W p l e R s m args below meth cd H locs cells slots Q (F0 m pc ls (S.map (am_mp base xa))) := by
  simp only [am_step] at hs
  split at hs
  · split at hs
    · rename_i h4
      simp only [am_push, Option.some.injEq, Sum.inl.injEq, Prod.mk.injEq] at hs; obtain ⟨rfl, rfl, rfl, rfl⟩ := hs; have hce := hce.trans (am_same (h := h) rfl cells slots).1; have hsl := hsl.trans (am_same (h := h) rfl cells slots).2; subst hce; subst hsl
      exact go_fadd C hl.1 h4 hR hR2 hc (fun q => kk _ _ _ _ q hl P)
    · cases hs
  · cases hs
theorem gs_fsub (C : am_ctx E base xa dC dI cA M p R s m args meth cd) (hc : am_chk M pc (.fsub :: c) = true) (hl : am_lrel base xa L ls (am_mL M)) (P : am_hp base dC dI cA s h H locs) (hs : am_step E M (.fsub :: c) L S h = some (.inl (c', L', S', h1))) (hce : ce = cells + (h1.1.length - h.1.length)) (hsl : sl = slots + (am_sz h1 - am_sz h)) (hR : ce ≤ R.cells) (hR2 : sl ≤ R.slots) (kk : ∀ pc' ls' H' locs', am_chk M pc' c' = true → am_lrel base xa L' ls' (am_mL M) → am_hp base dC dI cA s h1 H' locs' → W p l e R s m args below meth cd H' locs' ce sl Q (F0 m pc' ls' (S'.map (am_mp base xa)))) : W p l e R s m args below meth cd H locs cells slots Q (F0 m pc ls (S.map (am_mp base xa))) := by
  simp only [am_step] at hs
  split at hs
  · split at hs
    · rename_i h4
      simp only [am_push, Option.some.injEq, Sum.inl.injEq, Prod.mk.injEq] at hs; obtain ⟨rfl, rfl, rfl, rfl⟩ := hs; have hce := hce.trans (am_same (h := h) rfl cells slots).1; have hsl := hsl.trans (am_same (h := h) rfl cells slots).2; subst hce; subst hsl
      exact go_fsub C hl.1 h4 hR hR2 hc (fun q => kk _ _ _ _ q hl P)
    · cases hs
  · cases hs
theorem gs_fmul (C : am_ctx E base xa dC dI cA M p R s m args meth cd) (hc : am_chk M pc (.fmul :: c) = true) (hl : am_lrel base xa L ls (am_mL M)) (P : am_hp base dC dI cA s h H locs) (hs : am_step E M (.fmul :: c) L S h = some (.inl (c', L', S', h1))) (hce : ce = cells + (h1.1.length - h.1.length)) (hsl : sl = slots + (am_sz h1 - am_sz h)) (hR : ce ≤ R.cells) (hR2 : sl ≤ R.slots) (kk : ∀ pc' ls' H' locs', am_chk M pc' c' = true → am_lrel base xa L' ls' (am_mL M) → am_hp base dC dI cA s h1 H' locs' → W p l e R s m args below meth cd H' locs' ce sl Q (F0 m pc' ls' (S'.map (am_mp base xa)))) : W p l e R s m args below meth cd H locs cells slots Q (F0 m pc ls (S.map (am_mp base xa))) := by
  simp only [am_step] at hs
  split at hs
  · split at hs
    · rename_i h4
      simp only [am_push, Option.some.injEq, Sum.inl.injEq, Prod.mk.injEq] at hs; obtain ⟨rfl, rfl, rfl, rfl⟩ := hs; have hce := hce.trans (am_same (h := h) rfl cells slots).1; have hsl := hsl.trans (am_same (h := h) rfl cells slots).2; subst hce; subst hsl
      exact go_fmul C hl.1 h4 hR hR2 hc (fun q => kk _ _ _ _ q hl P)
    · cases hs
  · cases hs
theorem gs_fdiv (C : am_ctx E base xa dC dI cA M p R s m args meth cd) (hc : am_chk M pc (.fdiv :: c) = true) (hl : am_lrel base xa L ls (am_mL M)) (P : am_hp base dC dI cA s h H locs) (hs : am_step E M (.fdiv :: c) L S h = some (.inl (c', L', S', h1))) (hce : ce = cells + (h1.1.length - h.1.length)) (hsl : sl = slots + (am_sz h1 - am_sz h)) (hR : ce ≤ R.cells) (hR2 : sl ≤ R.slots) (kk : ∀ pc' ls' H' locs', am_chk M pc' c' = true → am_lrel base xa L' ls' (am_mL M) → am_hp base dC dI cA s h1 H' locs' → W p l e R s m args below meth cd H' locs' ce sl Q (F0 m pc' ls' (S'.map (am_mp base xa)))) : W p l e R s m args below meth cd H locs cells slots Q (F0 m pc ls (S.map (am_mp base xa))) := by
  simp only [am_step] at hs
  split at hs
  · split at hs
    · rename_i h4
      simp only [am_push, Option.some.injEq, Sum.inl.injEq, Prod.mk.injEq] at hs; obtain ⟨rfl, rfl, rfl, rfl⟩ := hs; have hce := hce.trans (am_same (h := h) rfl cells slots).1; have hsl := hsl.trans (am_same (h := h) rfl cells slots).2; subst hce; subst hsl
      exact go_fdiv C hl.1 h4 hR hR2 hc (fun q => kk _ _ _ _ q hl P)
    · cases hs
  · cases hs
theorem gs_bipush {v : Int} (C : am_ctx E base xa dC dI cA M p R s m args meth cd) (hc : am_chk M pc (.bipush v :: c) = true) (hl : am_lrel base xa L ls (am_mL M)) (P : am_hp base dC dI cA s h H locs) (hs : am_step E M (.bipush v :: c) L S h = some (.inl (c', L', S', h1))) (hce : ce = cells + (h1.1.length - h.1.length)) (hsl : sl = slots + (am_sz h1 - am_sz h)) (hR : ce ≤ R.cells) (hR2 : sl ≤ R.slots) (kk : ∀ pc' ls' H' locs', am_chk M pc' c' = true → am_lrel base xa L' ls' (am_mL M) → am_hp base dC dI cA s h1 H' locs' → W p l e R s m args below meth cd H' locs' ce sl Q (F0 m pc' ls' (S'.map (am_mp base xa)))) : W p l e R s m args below meth cd H locs cells slots Q (F0 m pc ls (S.map (am_mp base xa))) := by
  simp only [am_step] at hs
  simp only [am_push, Option.some.injEq, Sum.inl.injEq, Prod.mk.injEq] at hs; obtain ⟨rfl, rfl, rfl, rfl⟩ := hs; have hce := hce.trans (am_same (h := h) rfl cells slots).1; have hsl := hsl.trans (am_same (h := h) rfl cells slots).2; subst hce; subst hsl
  exact go_bipush C hc (fun len q => kk _ _ _ _ q hl P)
theorem gs_sipush {v : Int} (C : am_ctx E base xa dC dI cA M p R s m args meth cd) (hc : am_chk M pc (.sipush v :: c) = true) (hl : am_lrel base xa L ls (am_mL M)) (P : am_hp base dC dI cA s h H locs) (hs : am_step E M (.sipush v :: c) L S h = some (.inl (c', L', S', h1))) (hce : ce = cells + (h1.1.length - h.1.length)) (hsl : sl = slots + (am_sz h1 - am_sz h)) (hR : ce ≤ R.cells) (hR2 : sl ≤ R.slots) (kk : ∀ pc' ls' H' locs', am_chk M pc' c' = true → am_lrel base xa L' ls' (am_mL M) → am_hp base dC dI cA s h1 H' locs' → W p l e R s m args below meth cd H' locs' ce sl Q (F0 m pc' ls' (S'.map (am_mp base xa)))) : W p l e R s m args below meth cd H locs cells slots Q (F0 m pc ls (S.map (am_mp base xa))) := by
  simp only [am_step] at hs
  simp only [am_push, Option.some.injEq, Sum.inl.injEq, Prod.mk.injEq] at hs; obtain ⟨rfl, rfl, rfl, rfl⟩ := hs; have hce := hce.trans (am_same (h := h) rfl cells slots).1; have hsl := hsl.trans (am_same (h := h) rfl cells slots).2; subst hce; subst hsl
  exact go_sipush C hc (fun len q => kk _ _ _ _ q hl P)
theorem gs_iload {n : Nat} (C : am_ctx E base xa dC dI cA M p R s m args meth cd) (hc : am_chk M pc (.iload n :: c) = true) (hl : am_lrel base xa L ls (am_mL M)) (P : am_hp base dC dI cA s h H locs) (hs : am_step E M (.iload n :: c) L S h = some (.inl (c', L', S', h1))) (hce : ce = cells + (h1.1.length - h.1.length)) (hsl : sl = slots + (am_sz h1 - am_sz h)) (hR : ce ≤ R.cells) (hR2 : sl ≤ R.slots) (kk : ∀ pc' ls' H' locs', am_chk M pc' c' = true → am_lrel base xa L' ls' (am_mL M) → am_hp base dC dI cA s h1 H' locs' → W p l e R s m args below meth cd H' locs' ce sl Q (F0 m pc' ls' (S'.map (am_mp base xa)))) : W p l e R s m args below meth cd H locs cells slots Q (F0 m pc ls (S.map (am_mp base xa))) := by
  simp only [am_step] at hs
  split at hs
  · rename_i hx
    simp only [am_push, Option.some.injEq, Sum.inl.injEq, Prod.mk.injEq] at hs; obtain ⟨rfl, rfl, rfl, rfl⟩ := hs; have hce := hce.trans (am_same (h := h) rfl cells slots).1; have hsl := hsl.trans (am_same (h := h) rfl cells slots).2; subst hce; subst hsl
    exact go_iload C hl hx hc (fun len q => kk _ _ _ _ q hl P)
  · cases hs
theorem gs_lload {n : Nat} (C : am_ctx E base xa dC dI cA M p R s m args meth cd) (hc : am_chk M pc (.lload n :: c) = true) (hl : am_lrel base xa L ls (am_mL M)) (P : am_hp base dC dI cA s h H locs) (hs : am_step E M (.lload n :: c) L S h = some (.inl (c', L', S', h1))) (hce : ce = cells + (h1.1.length - h.1.length)) (hsl : sl = slots + (am_sz h1 - am_sz h)) (hR : ce ≤ R.cells) (hR2 : sl ≤ R.slots) (kk : ∀ pc' ls' H' locs', am_chk M pc' c' = true → am_lrel base xa L' ls' (am_mL M) → am_hp base dC dI cA s h1 H' locs' → W p l e R s m args below meth cd H' locs' ce sl Q (F0 m pc' ls' (S'.map (am_mp base xa)))) : W p l e R s m args below meth cd H locs cells slots Q (F0 m pc ls (S.map (am_mp base xa))) := by
  simp only [am_step] at hs
  split at hs
  · rename_i hx
    simp only [am_push, Option.some.injEq, Sum.inl.injEq, Prod.mk.injEq] at hs; obtain ⟨rfl, rfl, rfl, rfl⟩ := hs; have hce := hce.trans (am_same (h := h) rfl cells slots).1; have hsl := hsl.trans (am_same (h := h) rfl cells slots).2; subst hce; subst hsl
    exact go_lload C hl hx hc (fun len q => kk _ _ _ _ q hl P)
  · cases hs
theorem gs_aload {n : Nat} (C : am_ctx E base xa dC dI cA M p R s m args meth cd) (hc : am_chk M pc (.aload n :: c) = true) (hl : am_lrel base xa L ls (am_mL M)) (P : am_hp base dC dI cA s h H locs) (hs : am_step E M (.aload n :: c) L S h = some (.inl (c', L', S', h1))) (hce : ce = cells + (h1.1.length - h.1.length)) (hsl : sl = slots + (am_sz h1 - am_sz h)) (hR : ce ≤ R.cells) (hR2 : sl ≤ R.slots) (kk : ∀ pc' ls' H' locs', am_chk M pc' c' = true → am_lrel base xa L' ls' (am_mL M) → am_hp base dC dI cA s h1 H' locs' → W p l e R s m args below meth cd H' locs' ce sl Q (F0 m pc' ls' (S'.map (am_mp base xa)))) : W p l e R s m args below meth cd H locs cells slots Q (F0 m pc ls (S.map (am_mp base xa))) := by
  simp only [am_step] at hs
  split at hs
  · rename_i hx
    simp only [am_push, Option.some.injEq, Sum.inl.injEq, Prod.mk.injEq] at hs; obtain ⟨rfl, rfl, rfl, rfl⟩ := hs; have hce := hce.trans (am_same (h := h) rfl cells slots).1; have hsl := hsl.trans (am_same (h := h) rfl cells slots).2; subst hce; subst hsl
    exact go_aloadR C hl hx hc (fun len q => kk _ _ _ _ q hl P)
  · rename_i hx
    simp only [am_push, Option.some.injEq, Sum.inl.injEq, Prod.mk.injEq] at hs; obtain ⟨rfl, rfl, rfl, rfl⟩ := hs; have hce := hce.trans (am_same (h := h) rfl cells slots).1; have hsl := hsl.trans (am_same (h := h) rfl cells slots).2; subst hce; subst hsl
    exact go_aloadX C hl hx hc (fun len q => kk _ _ _ _ q hl P)
  · cases hs
theorem gs_istore {n : Nat} (C : am_ctx E base xa dC dI cA M p R s m args meth cd) (hc : am_chk M pc (.istore n :: c) = true) (hl : am_lrel base xa L ls (am_mL M)) (P : am_hp base dC dI cA s h H locs) (hs : am_step E M (.istore n :: c) L S h = some (.inl (c', L', S', h1))) (hce : ce = cells + (h1.1.length - h.1.length)) (hsl : sl = slots + (am_sz h1 - am_sz h)) (hR : ce ≤ R.cells) (hR2 : sl ≤ R.slots) (kk : ∀ pc' ls' H' locs', am_chk M pc' c' = true → am_lrel base xa L' ls' (am_mL M) → am_hp base dC dI cA s h1 H' locs' → W p l e R s m args below meth cd H' locs' ce sl Q (F0 m pc' ls' (S'.map (am_mp base xa)))) : W p l e R s m args below meth cd H locs cells slots Q (F0 m pc ls (S.map (am_mp base xa))) := by
  simp only [am_step] at hs
  split at hs
  · split at hs
    · rename_i hn
      simp only [am_push, Option.some.injEq, Sum.inl.injEq, Prod.mk.injEq] at hs; obtain ⟨rfl, rfl, rfl, rfl⟩ := hs; have hce := hce.trans (am_same (h := h) rfl cells slots).1; have hsl := hsl.trans (am_same (h := h) rfl cells slots).2; subst hce; subst hsl
      exact go_istore C hl hn hc (fun len ls' q q2 => kk _ _ _ _ q q2 P)
    · cases hs
  · cases hs
theorem gs_lstore {n : Nat} (C : am_ctx E base xa dC dI cA M p R s m args meth cd) (hc : am_chk M pc (.lstore n :: c) = true) (hl : am_lrel base xa L ls (am_mL M)) (P : am_hp base dC dI cA s h H locs) (hs : am_step E M (.lstore n :: c) L S h = some (.inl (c', L', S', h1))) (hce : ce = cells + (h1.1.length - h.1.length)) (hsl : sl = slots + (am_sz h1 - am_sz h)) (hR : ce ≤ R.cells) (hR2 : sl ≤ R.slots) (kk : ∀ pc' ls' H' locs', am_chk M pc' c' = true → am_lrel base xa L' ls' (am_mL M) → am_hp base dC dI cA s h1 H' locs' → W p l e R s m args below meth cd H' locs' ce sl Q (F0 m pc' ls' (S'.map (am_mp base xa)))) : W p l e R s m args below meth cd H locs cells slots Q (F0 m pc ls (S.map (am_mp base xa))) := by
  simp only [am_step] at hs
  split at hs
  · split at hs
    · rename_i hn
      simp only [am_push, Option.some.injEq, Sum.inl.injEq, Prod.mk.injEq] at hs; obtain ⟨rfl, rfl, rfl, rfl⟩ := hs; have hce := hce.trans (am_same (h := h) rfl cells slots).1; have hsl := hsl.trans (am_same (h := h) rfl cells slots).2; subst hce; subst hsl
      exact go_lstore C hl hn hc (fun len ls' q q2 => kk _ _ _ _ q q2 P)
    · cases hs
  · cases hs
theorem gs_astore {n : Nat} (C : am_ctx E base xa dC dI cA M p R s m args meth cd) (hc : am_chk M pc (.astore n :: c) = true) (hl : am_lrel base xa L ls (am_mL M)) (P : am_hp base dC dI cA s h H locs) (hs : am_step E M (.astore n :: c) L S h = some (.inl (c', L', S', h1))) (hce : ce = cells + (h1.1.length - h.1.length)) (hsl : sl = slots + (am_sz h1 - am_sz h)) (hR : ce ≤ R.cells) (hR2 : sl ≤ R.slots) (kk : ∀ pc' ls' H' locs', am_chk M pc' c' = true → am_lrel base xa L' ls' (am_mL M) → am_hp base dC dI cA s h1 H' locs' → W p l e R s m args below meth cd H' locs' ce sl Q (F0 m pc' ls' (S'.map (am_mp base xa)))) : W p l e R s m args below meth cd H locs cells slots Q (F0 m pc ls (S.map (am_mp base xa))) := by
  simp only [am_step] at hs
  split at hs
  · split at hs
    · rename_i hn
      simp only [am_push, Option.some.injEq, Sum.inl.injEq, Prod.mk.injEq] at hs; obtain ⟨rfl, rfl, rfl, rfl⟩ := hs; have hce := hce.trans (am_same (h := h) rfl cells slots).1; have hsl := hsl.trans (am_same (h := h) rfl cells slots).2; subst hce; subst hsl
      exact go_astore C hl hn hc (fun len ls' q q2 => kk _ _ _ _ q q2 P)
    · cases hs
  · cases hs
theorem gs_iinc {n : Nat} {v : Int} (C : am_ctx E base xa dC dI cA M p R s m args meth cd) (hc : am_chk M pc (.iinc n v :: c) = true) (hl : am_lrel base xa L ls (am_mL M)) (P : am_hp base dC dI cA s h H locs) (hs : am_step E M (.iinc n v :: c) L S h = some (.inl (c', L', S', h1))) (hce : ce = cells + (h1.1.length - h.1.length)) (hsl : sl = slots + (am_sz h1 - am_sz h)) (hR : ce ≤ R.cells) (hR2 : sl ≤ R.slots) (kk : ∀ pc' ls' H' locs', am_chk M pc' c' = true → am_lrel base xa L' ls' (am_mL M) → am_hp base dC dI cA s h1 H' locs' → W p l e R s m args below meth cd H' locs' ce sl Q (F0 m pc' ls' (S'.map (am_mp base xa)))) : W p l e R s m args below meth cd H locs cells slots Q (F0 m pc ls (S.map (am_mp base xa))) := by
  simp only [am_step] at hs
  split at hs
  · rename_i hx
    simp only [am_push, Option.some.injEq, Sum.inl.injEq, Prod.mk.injEq] at hs; obtain ⟨rfl, rfl, rfl, rfl⟩ := hs; have hce := hce.trans (am_same (h := h) rfl cells slots).1; have hsl := hsl.trans (am_same (h := h) rfl cells slots).2; subst hce; subst hsl
    exact go_iinc C hl hx hc (fun len ls' q q2 => kk _ _ _ _ q q2 P)
  · cases hs
theorem gs_goto {t : Int} (C : am_ctx E base xa dC dI cA M p R s m args meth cd) (hc : am_chk M pc (.goto t :: c) = true) (hl : am_lrel base xa L ls (am_mL M)) (P : am_hp base dC dI cA s h H locs) (hs : am_step E M (.goto t :: c) L S h = some (.inl (c', L', S', h1))) (hce : ce = cells + (h1.1.length - h.1.length)) (hsl : sl = slots + (am_sz h1 - am_sz h)) (hR : ce ≤ R.cells) (hR2 : sl ≤ R.slots) (kk : ∀ pc' ls' H' locs', am_chk M pc' c' = true → am_lrel base xa L' ls' (am_mL M) → am_hp base dC dI cA s h1 H' locs' → W p l e R s m args below meth cd H' locs' ce sl Q (F0 m pc' ls' (S'.map (am_mp base xa)))) : W p l e R s m args below meth cd H locs cells slots Q (F0 m pc ls (S.map (am_mp base xa))) := by
  simp only [am_step] at hs
  simp only [am_push, Option.some.injEq, Sum.inl.injEq, Prod.mk.injEq] at hs; obtain ⟨rfl, rfl, rfl, rfl⟩ := hs; have hce := hce.trans (am_same (h := h) rfl cells slots).1; have hsl := hsl.trans (am_same (h := h) rfl cells slots).2; subst hce; subst hsl
  exact go_goto C hc (fun q => kk _ _ _ _ q hl P)
theorem gs_jsr {t : Int} (C : am_ctx E base xa dC dI cA M p R s m args meth cd) (hc : am_chk M pc (.jsr t :: c) = true) (hl : am_lrel base xa L ls (am_mL M)) (P : am_hp base dC dI cA s h H locs) (hs : am_step E M (.jsr t :: c) L S h = some (.inl (c', L', S', h1))) (hce : ce = cells + (h1.1.length - h.1.length)) (hsl : sl = slots + (am_sz h1 - am_sz h)) (hR : ce ≤ R.cells) (hR2 : sl ≤ R.slots) (kk : ∀ pc' ls' H' locs', am_chk M pc' c' = true → am_lrel base xa L' ls' (am_mL M) → am_hp base dC dI cA s h1 H' locs' → W p l e R s m args below meth cd H' locs' ce sl Q (F0 m pc' ls' (S'.map (am_mp base xa)))) : W p l e R s m args below meth cd H locs cells slots Q (F0 m pc ls (S.map (am_mp base xa))) := by
  simp only [am_step] at hs
  simp only [am_push, Option.some.injEq, Sum.inl.injEq, Prod.mk.injEq] at hs; obtain ⟨rfl, rfl, rfl, rfl⟩ := hs; have hce := hce.trans (am_same (h := h) rfl cells slots).1; have hsl := hsl.trans (am_same (h := h) rfl cells slots).2; subst hce; subst hsl
  exact go_jsr hc (fun q => kk _ _ _ _ q hl P)
theorem gs_if_icmp {o : Jvm.ClassFile.Cond} {t : Int} (C : am_ctx E base xa dC dI cA M p R s m args meth cd) (hc : am_chk M pc (.if_icmp o t :: c) = true) (hl : am_lrel base xa L ls (am_mL M)) (P : am_hp base dC dI cA s h H locs) (hs : am_step E M (.if_icmp o t :: c) L S h = some (.inl (c', L', S', h1))) (hce : ce = cells + (h1.1.length - h.1.length)) (hsl : sl = slots + (am_sz h1 - am_sz h)) (hR : ce ≤ R.cells) (hR2 : sl ≤ R.slots) (kk : ∀ pc' ls' H' locs', am_chk M pc' c' = true → am_lrel base xa L' ls' (am_mL M) → am_hp base dC dI cA s h1 H' locs' → W p l e R s m args below meth cd H' locs' ce sl Q (F0 m pc' ls' (S'.map (am_mp base xa)))) : W p l e R s m args below meth cd H locs cells slots Q (F0 m pc ls (S.map (am_mp base xa))) := by
  simp only [am_step] at hs
  split at hs
  · split at hs
    · rename_i hq
      simp only [am_push, Option.some.injEq, Sum.inl.injEq, Prod.mk.injEq] at hs; obtain ⟨rfl, rfl, rfl, rfl⟩ := hs; have hce := hce.trans (am_same (h := h) rfl cells slots).1; have hsl := hsl.trans (am_same (h := h) rfl cells slots).2; subst hce; subst hsl
      exact go_icmp C hc (fun q _ => kk _ _ _ _ q hl P) (fun _ q2 => by rw [hq] at q2; cases q2)
    · rename_i hq
      simp only [am_push, Option.some.injEq, Sum.inl.injEq, Prod.mk.injEq] at hs; obtain ⟨rfl, rfl, rfl, rfl⟩ := hs; have hce := hce.trans (am_same (h := h) rfl cells slots).1; have hsl := hsl.trans (am_same (h := h) rfl cells slots).2; subst hce; subst hsl
      exact go_icmp C hc (fun _ q2 => absurd q2 hq) (fun q _ => kk _ _ _ _ q hl P)
  · cases hs
theorem gs_ifCond {o : Jvm.ClassFile.Cond} {t : Int} (C : am_ctx E base xa dC dI cA M p R s m args meth cd) (hc : am_chk M pc (.ifCond o t :: c) = true) (hl : am_lrel base xa L ls (am_mL M)) (P : am_hp base dC dI cA s h H locs) (hs : am_step E M (.ifCond o t :: c) L S h = some (.inl (c', L', S', h1))) (hce : ce = cells + (h1.1.length - h.1.length)) (hsl : sl = slots + (am_sz h1 - am_sz h)) (hR : ce ≤ R.cells) (hR2 : sl ≤ R.slots) (kk : ∀ pc' ls' H' locs', am_chk M pc' c' = true → am_lrel base xa L' ls' (am_mL M) → am_hp base dC dI cA s h1 H' locs' → W p l e R s m args below meth cd H' locs' ce sl Q (F0 m pc' ls' (S'.map (am_mp base xa)))) : W p l e R s m args below meth cd H locs cells slots Q (F0 m pc ls (S.map (am_mp base xa))) := by
  simp only [am_step] at hs
  split at hs
  · split at hs
    · rename_i hq
      simp only [am_push, Option.some.injEq, Sum.inl.injEq, Prod.mk.injEq] at hs; obtain ⟨rfl, rfl, rfl, rfl⟩ := hs; have hce := hce.trans (am_same (h := h) rfl cells slots).1; have hsl := hsl.trans (am_same (h := h) rfl cells slots).2; subst hce; subst hsl
      exact go_ifc C hc (fun q _ => kk _ _ _ _ q hl P) (fun _ q2 => by rw [hq] at q2; cases q2)
    · rename_i hq
      simp only [am_push, Option.some.injEq, Sum.inl.injEq, Prod.mk.injEq] at hs; obtain ⟨rfl, rfl, rfl, rfl⟩ := hs; have hce := hce.trans (am_same (h := h) rfl cells slots).1; have hsl := hsl.trans (am_same (h := h) rfl cells slots).2; subst hce; subst hsl
      exact go_ifc C hc (fun _ q2 => absurd q2 hq) (fun q _ => kk _ _ _ _ q hl P)
  · cases hs
theorem gs_tableswitch {d : Int} {lo : Int} {hi : Int} {os : Array Int} (C : am_ctx E base xa dC dI cA M p R s m args meth cd) (hc : am_chk M pc (.tableswitch d lo hi os :: c) = true) (hl : am_lrel base xa L ls (am_mL M)) (P : am_hp base dC dI cA s h H locs) (hs : am_step E M (.tableswitch d lo hi os :: c) L S h = some (.inl (c', L', S', h1))) (hce : ce = cells + (h1.1.length - h.1.length)) (hsl : sl = slots + (am_sz h1 - am_sz h)) (hR : ce ≤ R.cells) (hR2 : sl ≤ R.slots) (kk : ∀ pc' ls' H' locs', am_chk M pc' c' = true → am_lrel base xa L' ls' (am_mL M) → am_hp base dC dI cA s h1 H' locs' → W p l e R s m args below meth cd H' locs' ce sl Q (F0 m pc' ls' (S'.map (am_mp base xa)))) : W p l e R s m args below meth cd H locs cells slots Q (F0 m pc ls (S.map (am_mp base xa))) := by
  simp only [am_step] at hs
  split at hs
  · simp only [am_push, Option.some.injEq, Sum.inl.injEq, Prod.mk.injEq] at hs; obtain ⟨rfl, rfl, rfl, rfl⟩ := hs; have hce := hce.trans (am_same (h := h) rfl cells slots).1; have hsl := hsl.trans (am_same (h := h) rfl cells slots).2; subst hce; subst hsl
    exact go_tsw C hc (fun q => kk _ _ _ _ q hl P)
  · cases hs
theorem gs_lookupswitch {d : Int} {ps : Array (Int × Int)} (C : am_ctx E base xa dC dI cA M p R s m args meth cd) (hc : am_chk M pc (.lookupswitch d ps :: c) = true) (hl : am_lrel base xa L ls (am_mL M)) (P : am_hp base dC dI cA s h H locs) (hs : am_step E M (.lookupswitch d ps :: c) L S h = some (.inl (c', L', S', h1))) (hce : ce = cells + (h1.1.length - h.1.length)) (hsl : sl = slots + (am_sz h1 - am_sz h)) (hR : ce ≤ R.cells) (hR2 : sl ≤ R.slots) (kk : ∀ pc' ls' H' locs', am_chk M pc' c' = true → am_lrel base xa L' ls' (am_mL M) → am_hp base dC dI cA s h1 H' locs' → W p l e R s m args below meth cd H' locs' ce sl Q (F0 m pc' ls' (S'.map (am_mp base xa)))) : W p l e R s m args below meth cd H locs cells slots Q (F0 m pc ls (S.map (am_mp base xa))) := by
  simp only [am_step] at hs
  split at hs
  · simp only [am_push, Option.some.injEq, Sum.inl.injEq, Prod.mk.injEq] at hs; obtain ⟨rfl, rfl, rfl, rfl⟩ := hs; have hce := hce.trans (am_same (h := h) rfl cells slots).1; have hsl := hsl.trans (am_same (h := h) rfl cells slots).2; subst hce; subst hsl
    exact go_lsw C hc (fun q => kk _ _ _ _ q hl P)
  · cases hs
theorem gs_getfield {x : Nat} (C : am_ctx E base xa dC dI cA M p R s m args meth cd) (hc : am_chk M pc (.getfield x :: c) = true) (hl : am_lrel base xa L ls (am_mL M)) (P : am_hp base dC dI cA s h H locs) (hs : am_step E M (.getfield x :: c) L S h = some (.inl (c', L', S', h1))) (hce : ce = cells + (h1.1.length - h.1.length)) (hsl : sl = slots + (am_sz h1 - am_sz h)) (hR : ce ≤ R.cells) (hR2 : sl ≤ R.slots) (kk : ∀ pc' ls' H' locs', am_chk M pc' c' = true → am_lrel base xa L' ls' (am_mL M) → am_hp base dC dI cA s h1 H' locs' → W p l e R s m args below meth cd H' locs' ce sl Q (F0 m pc' ls' (S'.map (am_mp base xa)))) : W p l e R s m args below meth cd H locs cells slots Q (F0 m pc ls (S.map (am_mp base xa))) := by
  simp only [am_step] at hs
  split at hs
  · split at hs
    · rename_i ho
      simp only [am_push, Option.some.injEq, Sum.inl.injEq, Prod.mk.injEq] at hs; obtain ⟨rfl, rfl, rfl, rfl⟩ := hs; have hce := hce.trans (am_same (h := h) rfl cells slots).1; have hsl := hsl.trans (am_same (h := h) rfl cells slots).2; subst hce; subst hsl
      exact go_getf C P ho hc (fun q => kk _ _ _ _ q hl P)
    · cases hs
  · cases hs
theorem gs_putfield {x : Nat} (C : am_ctx E base xa dC dI cA M p R s m args meth cd) (hc : am_chk M pc (.putfield x :: c) = true) (hl : am_lrel base xa L ls (am_mL M)) (P : am_hp base dC dI cA s h H locs) (hs : am_step E M (.putfield x :: c) L S h = some (.inl (c', L', S', h1))) (hce : ce = cells + (h1.1.length - h.1.length)) (hsl : sl = slots + (am_sz h1 - am_sz h)) (hR : ce ≤ R.cells) (hR2 : sl ≤ R.slots) (kk : ∀ pc' ls' H' locs', am_chk M pc' c' = true → am_lrel base xa L' ls' (am_mL M) → am_hp base dC dI cA s h1 H' locs' → W p l e R s m args below meth cd H' locs' ce sl Q (F0 m pc' ls' (S'.map (am_mp base xa)))) : W p l e R s m args below meth cd H locs cells slots Q (F0 m pc ls (S.map (am_mp base xa))) := by
  simp only [am_step] at hs
  split at hs
  · split at hs
    · rename_i ho
      split at hs
      · rename_i hp
        simp only [am_push, Option.some.injEq, Sum.inl.injEq, Prod.mk.injEq] at hs; obtain ⟨rfl, rfl, rfl, rfl⟩ := hs
        rw [(am_same (h := h) (am_pf_lay hp) cells slots).1] at hce; rw [(am_same (h := h) (am_pf_lay hp) cells slots).2] at hsl; subst hce; subst hsl
        exact go_putf C P ho hp hc (fun H' locs' q q2 => kk _ _ _ _ q hl q2)
      · cases hs
    · cases hs
  · cases hs
theorem gs_getstatic {x : Nat} (C : am_ctx E base xa dC dI cA M p R s m args meth cd) (hc : am_chk M pc (.getstatic x :: c) = true) (hl : am_lrel base xa L ls (am_mL M)) (P : am_hp base dC dI cA s h H locs) (hs : am_step E M (.getstatic x :: c) L S h = some (.inl (c', L', S', h1))) (hce : ce = cells + (h1.1.length - h.1.length)) (hsl : sl = slots + (am_sz h1 - am_sz h)) (hR : ce ≤ R.cells) (hR2 : sl ≤ R.slots) (kk : ∀ pc' ls' H' locs', am_chk M pc' c' = true → am_lrel base xa L' ls' (am_mL M) → am_hp base dC dI cA s h1 H' locs' → W p l e R s m args below meth cd H' locs' ce sl Q (F0 m pc' ls' (S'.map (am_mp base xa)))) : W p l e R s m args below meth cd H locs cells slots Q (F0 m pc ls (S.map (am_mp base xa))) := by
  simp only [am_step] at hs
  simp only [am_push, Option.some.injEq, Sum.inl.injEq, Prod.mk.injEq] at hs; obtain ⟨rfl, rfl, rfl, rfl⟩ := hs; have hce := hce.trans (am_same (h := h) rfl cells slots).1; have hsl := hsl.trans (am_same (h := h) rfl cells slots).2; subst hce; subst hsl
  exact go_gets C P hc (fun q => kk _ _ _ _ q hl P)
theorem gs_iaload (C : am_ctx E base xa dC dI cA M p R s m args meth cd) (hc : am_chk M pc (.iaload :: c) = true) (hl : am_lrel base xa L ls (am_mL M)) (P : am_hp base dC dI cA s h H locs) (hs : am_step E M (.iaload :: c) L S h = some (.inl (c', L', S', h1))) (hce : ce = cells + (h1.1.length - h.1.length)) (hsl : sl = slots + (am_sz h1 - am_sz h)) (hR : ce ≤ R.cells) (hR2 : sl ≤ R.slots) (kk : ∀ pc' ls' H' locs', am_chk M pc' c' = true → am_lrel base xa L' ls' (am_mL M) → am_hp base dC dI cA s h1 H' locs' → W p l e R s m args below meth cd H' locs' ce sl Q (F0 m pc' ls' (S'.map (am_mp base xa)))) : W p l e R s m args below meth cd H locs cells slots Q (F0 m pc ls (S.map (am_mp base xa))) := by
  simp only [am_step] at hs
  split at hs
  · split at hs
    · rename_i hr
      simp only [am_push, Option.some.injEq, Sum.inl.injEq, Prod.mk.injEq] at hs; obtain ⟨rfl, rfl, rfl, rfl⟩ := hs; have hce := hce.trans (am_same (h := h) rfl cells slots).1; have hsl := hsl.trans (am_same (h := h) rfl cells slots).2; subst hce; subst hsl
      exact go_iaload C P hr hc (fun q => kk _ _ _ _ q hl P)
    · cases hs
  · split at hs
    · rename_i hr
      simp only [am_push, Option.some.injEq, Sum.inl.injEq, Prod.mk.injEq] at hs; obtain ⟨rfl, rfl, rfl, rfl⟩ := hs; have hce := hce.trans (am_same (h := h) rfl cells slots).1; have hsl := hsl.trans (am_same (h := h) rfl cells slots).2; subst hce; subst hsl
      exact go_xld C P hr.1 hr.2 hc (fun q => kk _ _ _ _ q hl P)
    · cases hs
  · cases hs
theorem gs_baload (C : am_ctx E base xa dC dI cA M p R s m args meth cd) (hc : am_chk M pc (.baload :: c) = true) (hl : am_lrel base xa L ls (am_mL M)) (P : am_hp base dC dI cA s h H locs) (hs : am_step E M (.baload :: c) L S h = some (.inl (c', L', S', h1))) (hce : ce = cells + (h1.1.length - h.1.length)) (hsl : sl = slots + (am_sz h1 - am_sz h)) (hR : ce ≤ R.cells) (hR2 : sl ≤ R.slots) (kk : ∀ pc' ls' H' locs', am_chk M pc' c' = true → am_lrel base xa L' ls' (am_mL M) → am_hp base dC dI cA s h1 H' locs' → W p l e R s m args below meth cd H' locs' ce sl Q (F0 m pc' ls' (S'.map (am_mp base xa)))) : W p l e R s m args below meth cd H locs cells slots Q (F0 m pc ls (S.map (am_mp base xa))) := by
  simp only [am_step] at hs
  split at hs
  · split at hs
    · rename_i hr
      simp only [am_push, Option.some.injEq, Sum.inl.injEq, Prod.mk.injEq] at hs; obtain ⟨rfl, rfl, rfl, rfl⟩ := hs; have hce := hce.trans (am_same (h := h) rfl cells slots).1; have hsl := hsl.trans (am_same (h := h) rfl cells slots).2; subst hce; subst hsl
      exact go_baload C P hr hc (fun q => kk _ _ _ _ q hl P)
    · cases hs
  · cases hs
theorem gs_laload (C : am_ctx E base xa dC dI cA M p R s m args meth cd) (hc : am_chk M pc (.laload :: c) = true) (hl : am_lrel base xa L ls (am_mL M)) (P : am_hp base dC dI cA s h H locs) (hs : am_step E M (.laload :: c) L S h = some (.inl (c', L', S', h1))) (hce : ce = cells + (h1.1.length - h.1.length)) (hsl : sl = slots + (am_sz h1 - am_sz h)) (hR : ce ≤ R.cells) (hR2 : sl ≤ R.slots) (kk : ∀ pc' ls' H' locs', am_chk M pc' c' = true → am_lrel base xa L' ls' (am_mL M) → am_hp base dC dI cA s h1 H' locs' → W p l e R s m args below meth cd H' locs' ce sl Q (F0 m pc' ls' (S'.map (am_mp base xa)))) : W p l e R s m args below meth cd H locs cells slots Q (F0 m pc ls (S.map (am_mp base xa))) := by
  simp only [am_step] at hs
  split at hs
  · split at hs
    · rename_i hr
      simp only [am_push, Option.some.injEq, Sum.inl.injEq, Prod.mk.injEq] at hs; obtain ⟨rfl, rfl, rfl, rfl⟩ := hs; have hce := hce.trans (am_same (h := h) rfl cells slots).1; have hsl := hsl.trans (am_same (h := h) rfl cells slots).2; subst hce; subst hsl
      exact go_laload C P hr hc (fun q => kk _ _ _ _ q hl P)
    · cases hs
  · cases hs
theorem gs_aaload (C : am_ctx E base xa dC dI cA M p R s m args meth cd) (hc : am_chk M pc (.aaload :: c) = true) (hl : am_lrel base xa L ls (am_mL M)) (P : am_hp base dC dI cA s h H locs) (hs : am_step E M (.aaload :: c) L S h = some (.inl (c', L', S', h1))) (hce : ce = cells + (h1.1.length - h.1.length)) (hsl : sl = slots + (am_sz h1 - am_sz h)) (hR : ce ≤ R.cells) (hR2 : sl ≤ R.slots) (kk : ∀ pc' ls' H' locs', am_chk M pc' c' = true → am_lrel base xa L' ls' (am_mL M) → am_hp base dC dI cA s h1 H' locs' → W p l e R s m args below meth cd H' locs' ce sl Q (F0 m pc' ls' (S'.map (am_mp base xa)))) : W p l e R s m args below meth cd H locs cells slots Q (F0 m pc ls (S.map (am_mp base xa))) := by
  simp only [am_step] at hs
  split at hs
  · split at hs
    · rename_i hr
      simp only [am_push, Option.some.injEq, Sum.inl.injEq, Prod.mk.injEq] at hs; obtain ⟨rfl, rfl, rfl, rfl⟩ := hs; have hce := hce.trans (am_same (h := h) rfl cells slots).1; have hsl := hsl.trans (am_same (h := h) rfl cells slots).2; subst hce; subst hsl
      exact go_aaload C P hr hc (fun q => kk _ _ _ _ q hl P)
    · cases hs
  · cases hs
theorem gs_iastore (C : am_ctx E base xa dC dI cA M p R s m args meth cd) (hc : am_chk M pc (.iastore :: c) = true) (hl : am_lrel base xa L ls (am_mL M)) (P : am_hp base dC dI cA s h H locs) (hs : am_step E M (.iastore :: c) L S h = some (.inl (c', L', S', h1))) (hce : ce = cells + (h1.1.length - h.1.length)) (hsl : sl = slots + (am_sz h1 - am_sz h)) (hR : ce ≤ R.cells) (hR2 : sl ≤ R.slots) (kk : ∀ pc' ls' H' locs', am_chk M pc' c' = true → am_lrel base xa L' ls' (am_mL M) → am_hp base dC dI cA s h1 H' locs' → W p l e R s m args below meth cd H' locs' ce sl Q (F0 m pc' ls' (S'.map (am_mp base xa)))) : W p l e R s m args below meth cd H locs cells slots Q (F0 m pc ls (S.map (am_mp base xa))) := by
  simp only [am_step] at hs
  split at hs
  · split at hs
    · rename_i hr
      simp only [am_push, Option.some.injEq, Sum.inl.injEq, Prod.mk.injEq] at hs; obtain ⟨rfl, rfl, rfl, rfl⟩ := hs; have hce := hce.trans (am_same (h := h) rfl cells slots).1; have hsl := hsl.trans (am_same (h := h) rfl cells slots).2; subst hce; subst hsl
      exact go_iastore C P hr hc (fun H' locs' q q2 => kk _ _ _ _ q hl q2)
    · cases hs
  · cases hs
theorem gs_lastore (C : am_ctx E base xa dC dI cA M p R s m args meth cd) (hc : am_chk M pc (.lastore :: c) = true) (hl : am_lrel base xa L ls (am_mL M)) (P : am_hp base dC dI cA s h H locs) (hs : am_step E M (.lastore :: c) L S h = some (.inl (c', L', S', h1))) (hce : ce = cells + (h1.1.length - h.1.length)) (hsl : sl = slots + (am_sz h1 - am_sz h)) (hR : ce ≤ R.cells) (hR2 : sl ≤ R.slots) (kk : ∀ pc' ls' H' locs', am_chk M pc' c' = true → am_lrel base xa L' ls' (am_mL M) → am_hp base dC dI cA s h1 H' locs' → W p l e R s m args below meth cd H' locs' ce sl Q (F0 m pc' ls' (S'.map (am_mp base xa)))) : W p l e R s m args below meth cd H locs cells slots Q (F0 m pc ls (S.map (am_mp base xa))) := by
  simp only [am_step] at hs
  split at hs
  · split at hs
    · rename_i hr
      simp only [am_push, Option.some.injEq, Sum.inl.injEq, Prod.mk.injEq] at hs; obtain ⟨rfl, rfl, rfl, rfl⟩ := hs; have hce := hce.trans (am_same (h := h) rfl cells slots).1; have hsl := hsl.trans (am_same (h := h) rfl cells slots).2; subst hce; subst hsl
      exact go_lastore C P hr hc (fun H' locs' q q2 => kk _ _ _ _ q hl q2)
    · cases hs
  · cases hs
theorem gs_bastore (C : am_ctx E base xa dC dI cA M p R s m args meth cd) (hc : am_chk M pc (.bastore :: c) = true) (hl : am_lrel base xa L ls (am_mL M)) (P : am_hp base dC dI cA s h H locs) (hs : am_step E M (.bastore :: c) L S h = some (.inl (c', L', S', h1))) (hce : ce = cells + (h1.1.length - h.1.length)) (hsl : sl = slots + (am_sz h1 - am_sz h)) (hR : ce ≤ R.cells) (hR2 : sl ≤ R.slots) (kk : ∀ pc' ls' H' locs', am_chk M pc' c' = true → am_lrel base xa L' ls' (am_mL M) → am_hp base dC dI cA s h1 H' locs' → W p l e R s m args below meth cd H' locs' ce sl Q (F0 m pc' ls' (S'.map (am_mp base xa)))) : W p l e R s m args below meth cd H locs cells slots Q (F0 m pc ls (S.map (am_mp base xa))) := by
  simp only [am_step] at hs
  split at hs
  · split at hs
    · rename_i hr
      simp only [am_push, Option.some.injEq, Sum.inl.injEq, Prod.mk.injEq] at hs; obtain ⟨rfl, rfl, rfl, rfl⟩ := hs; have hce := hce.trans (am_same (h := h) rfl cells slots).1; have hsl := hsl.trans (am_same (h := h) rfl cells slots).2; subst hce; subst hsl
      exact go_bastore C P hr.1 hr.2 hc (fun H' locs' q q2 => kk _ _ _ _ q hl q2)
    · cases hs
  · cases hs
theorem gs_aastore (C : am_ctx E base xa dC dI cA M p R s m args meth cd) (hc : am_chk M pc (.aastore :: c) = true) (hl : am_lrel base xa L ls (am_mL M)) (P : am_hp base dC dI cA s h H locs) (hs : am_step E M (.aastore :: c) L S h = some (.inl (c', L', S', h1))) (hce : ce = cells + (h1.1.length - h.1.length)) (hsl : sl = slots + (am_sz h1 - am_sz h)) (hR : ce ≤ R.cells) (hR2 : sl ≤ R.slots) (kk : ∀ pc' ls' H' locs', am_chk M pc' c' = true → am_lrel base xa L' ls' (am_mL M) → am_hp base dC dI cA s h1 H' locs' → W p l e R s m args below meth cd H' locs' ce sl Q (F0 m pc' ls' (S'.map (am_mp base xa)))) : W p l e R s m args below meth cd H locs cells slots Q (F0 m pc ls (S.map (am_mp base xa))) := by
  simp only [am_step] at hs
  split at hs
  · split at hs
    · rename_i hr
      simp only [am_push, Option.some.injEq, Sum.inl.injEq, Prod.mk.injEq] at hs; obtain ⟨rfl, rfl, rfl, rfl⟩ := hs; have hce := hce.trans (am_same (h := h) rfl cells slots).1; have hsl := hsl.trans (am_same (h := h) rfl cells slots).2; subst hce; subst hsl
      exact go_aastore C P hr.1 hr.2 hc (fun H' locs' q q2 => kk _ _ _ _ q hl q2)
    · cases hs
  · cases hs
theorem gs_arraylength (C : am_ctx E base xa dC dI cA M p R s m args meth cd) (hc : am_chk M pc (.arraylength :: c) = true) (hl : am_lrel base xa L ls (am_mL M)) (P : am_hp base dC dI cA s h H locs) (hs : am_step E M (.arraylength :: c) L S h = some (.inl (c', L', S', h1))) (hce : ce = cells + (h1.1.length - h.1.length)) (hsl : sl = slots + (am_sz h1 - am_sz h)) (hR : ce ≤ R.cells) (hR2 : sl ≤ R.slots) (kk : ∀ pc' ls' H' locs', am_chk M pc' c' = true → am_lrel base xa L' ls' (am_mL M) → am_hp base dC dI cA s h1 H' locs' → W p l e R s m args below meth cd H' locs' ce sl Q (F0 m pc' ls' (S'.map (am_mp base xa)))) : W p l e R s m args below meth cd H locs cells slots Q (F0 m pc ls (S.map (am_mp base xa))) := by
  simp only [am_step] at hs
  split at hs
  · split at hs
    · rename_i hr
      simp only [am_push, Option.some.injEq, Sum.inl.injEq, Prod.mk.injEq] at hs; obtain ⟨rfl, rfl, rfl, rfl⟩ := hs; have hce := hce.trans (am_same (h := h) rfl cells slots).1; have hsl := hsl.trans (am_same (h := h) rfl cells slots).2; subst hce; subst hsl
      exact go_xlen C P hr hc (fun q => kk _ _ _ _ q hl P)
    · cases hs
  · cases hs
theorem gs_new {x : Nat} (C : am_ctx E base xa dC dI cA M p R s m args meth cd) (hc : am_chk M pc (.new x :: c) = true) (hl : am_lrel base xa L ls (am_mL M)) (P : am_hp base dC dI cA s h H locs) (hs : am_step E M (.new x :: c) L S h = some (.inl (c', L', S', h1))) (hce : ce = cells + (h1.1.length - h.1.length)) (hsl : sl = slots + (am_sz h1 - am_sz h)) (hR : ce ≤ R.cells) (hR2 : sl ≤ R.slots) (kk : ∀ pc' ls' H' locs', am_chk M pc' c' = true → am_lrel base xa L' ls' (am_mL M) → am_hp base dC dI cA s h1 H' locs' → W p l e R s m args below meth cd H' locs' ce sl Q (F0 m pc' ls' (S'.map (am_mp base xa)))) : W p l e R s m args below meth cd H locs cells slots Q (F0 m pc ls (S.map (am_mp base xa))) := by
  simp only [am_step] at hs
  simp only [am_push, Option.some.injEq, Sum.inl.injEq, Prod.mk.injEq] at hs; obtain ⟨rfl, rfl, rfl, rfl⟩ := hs; rw [(am_more h _ cells slots).1] at hce; rw [(am_more h _ cells slots).2] at hsl; subst hce; subst hsl
  exact go_new C P hR hR2 hc (fun H' locs' q q2 => kk _ _ _ _ q hl q2)
theorem gs_newarray {t : ArrayType} (C : am_ctx E base xa dC dI cA M p R s m args meth cd) (hc : am_chk M pc (.newarray t :: c) = true) (hl : am_lrel base xa L ls (am_mL M)) (P : am_hp base dC dI cA s h H locs) (hs : am_step E M (.newarray t :: c) L S h = some (.inl (c', L', S', h1))) (hce : ce = cells + (h1.1.length - h.1.length)) (hsl : sl = slots + (am_sz h1 - am_sz h)) (hR : ce ≤ R.cells) (hR2 : sl ≤ R.slots) (kk : ∀ pc' ls' H' locs', am_chk M pc' c' = true → am_lrel base xa L' ls' (am_mL M) → am_hp base dC dI cA s h1 H' locs' → W p l e R s m args below meth cd H' locs' ce sl Q (F0 m pc' ls' (S'.map (am_mp base xa)))) : W p l e R s m args below meth cd H locs cells slots Q (F0 m pc ls (S.map (am_mp base xa))) := by
  simp only [am_step] at hs
  split at hs
  · split at hs
    · rename_i hn
      simp only [am_push, Option.some.injEq, Sum.inl.injEq, Prod.mk.injEq] at hs; obtain ⟨rfl, rfl, rfl, rfl⟩ := hs; rw [(am_more h _ cells slots).1] at hce; rw [(am_more h _ cells slots).2] at hsl; subst hce; subst hsl
      exact go_newarray C P hn.1 hn.2 hR hR2 hc (fun H' locs' q q2 => kk _ _ _ _ q hl q2)
    · cases hs
  · cases hs
theorem gs_anewarray {t : Nat} (C : am_ctx E base xa dC dI cA M p R s m args meth cd) (hc : am_chk M pc (.anewarray t :: c) = true) (hl : am_lrel base xa L ls (am_mL M)) (P : am_hp base dC dI cA s h H locs) (hs : am_step E M (.anewarray t :: c) L S h = some (.inl (c', L', S', h1))) (hce : ce = cells + (h1.1.length - h.1.length)) (hsl : sl = slots + (am_sz h1 - am_sz h)) (hR : ce ≤ R.cells) (hR2 : sl ≤ R.slots) (kk : ∀ pc' ls' H' locs', am_chk M pc' c' = true → am_lrel base xa L' ls' (am_mL M) → am_hp base dC dI cA s h1 H' locs' → W p l e R s m args below meth cd H' locs' ce sl Q (F0 m pc' ls' (S'.map (am_mp base xa)))) : W p l e R s m args below meth cd H locs cells slots Q (F0 m pc ls (S.map (am_mp base xa))) := by
  simp only [am_step] at hs
  split at hs
  · split at hs
    · rename_i hn
      simp only [am_push, Option.some.injEq, Sum.inl.injEq, Prod.mk.injEq] at hs; obtain ⟨rfl, rfl, rfl, rfl⟩ := hs; rw [(am_more h _ cells slots).1] at hce; rw [(am_more h _ cells slots).2] at hsl; subst hce; subst hsl
      exact go_anewarray C P hn.1 hn.2 hR hR2 hc (fun H' locs' q q2 => kk _ _ _ _ q hl q2)
    · cases hs
  · cases hs
theorem am_go (C : am_ctx E base xa dC dI cA M p R s m args meth cd) (hc : am_chk M pc c0 = true) (hl : am_lrel base xa L ls (am_mL M)) (P : am_hp base dC dI cA s h H locs) (hs : am_step E M c0 L S h = some (.inl (c', L', S', h1))) (hce : ce = cells + (h1.1.length - h.1.length)) (hsl : sl = slots + (am_sz h1 - am_sz h)) (hR : ce ≤ R.cells) (hR2 : sl ≤ R.slots) (kk : ∀ pc' ls' H' locs', am_chk M pc' c' = true → am_lrel base xa L' ls' (am_mL M) → am_hp base dC dI cA s h1 H' locs' → W p l e R s m args below meth cd H' locs' ce sl Q (F0 m pc' ls' (S'.map (am_mp base xa)))) : W p l e R s m args below meth cd H locs cells slots Q (F0 m pc ls (S.map (am_mp base xa))) := by
  cases c0 with
  | nil => cases hs
  | cons i c =>
    cases i
    case iadd => exact gs_iadd C hc hl P hs hce hsl hR hR2 kk
    case isub => exact gs_isub C hc hl P hs hce hsl hR hR2 kk
    case imul => exact gs_imul C hc hl P hs hce hsl hR hR2 kk
    case iand => exact gs_iand C hc hl P hs hce hsl hR hR2 kk
    case ior => exact gs_ior C hc hl P hs hce hsl hR hR2 kk
    case ixor => exact gs_ixor C hc hl P hs hce hsl hR hR2 kk
    case ishl => exact gs_ishl C hc hl P hs hce hsl hR hR2 kk
    case ishr => exact gs_ishr C hc hl P hs hce hsl hR hR2 kk
    case ineg => exact gs_ineg C hc hl P hs hce hsl hR hR2 kk
    case ladd => exact gs_ladd C hc hl P hs hce hsl hR hR2 kk
    case lsub => exact gs_lsub C hc hl P hs hce hsl hR hR2 kk
    case lmul => exact gs_lmul C hc hl P hs hce hsl hR hR2 kk
    case lneg => exact gs_lneg C hc hl P hs hce hsl hR hR2 kk
    case lcmp => exact gs_lcmp C hc hl P hs hce hsl hR hR2 kk
    case i2l => exact gs_i2l C hc hl P hs hce hsl hR hR2 kk
    case i2b => exact gs_i2b C hc hl P hs hce hsl hR hR2 kk
    case i2s => exact gs_i2s C hc hl P hs hce hsl hR hR2 kk
    case idiv => exact gs_idiv C hc hl P hs hce hsl hR hR2 kk
    case irem => exact gs_irem C hc hl P hs hce hsl hR hR2 kk
    case ldiv => exact gs_ldiv C hc hl P hs hce hsl hR hR2 kk
    case lrem => exact gs_lrem C hc hl P hs hce hsl hR hR2 kk
    case dup => exact gs_dup C hc hl P hs hce hsl hR hR2 kk
    case dup2 => exact gs_dup2 C hc hl P hs hce hsl hR hR2 kk
    case pop => exact gs_pop C hc hl P hs hce hsl hR hR2 kk
    case pop2 => exact gs_pop2 C hc hl P hs hce hsl hR hR2 kk
    case fadd => exact gs_fadd C hc hl P hs hce hsl hR hR2 kk
    case fsub => exact gs_fsub C hc hl P hs hce hsl hR hR2 kk
    case fmul => exact gs_fmul C hc hl P hs hce hsl hR hR2 kk
    case fdiv => exact gs_fdiv C hc hl P hs hce hsl hR hR2 kk
    case bipush _ => exact gs_bipush C hc hl P hs hce hsl hR hR2 kk
    case sipush _ => exact gs_sipush C hc hl P hs hce hsl hR hR2 kk
    case iload _ => exact gs_iload C hc hl P hs hce hsl hR hR2 kk
    case lload _ => exact gs_lload C hc hl P hs hce hsl hR hR2 kk
    case aload _ => exact gs_aload C hc hl P hs hce hsl hR hR2 kk
    case istore _ => exact gs_istore C hc hl P hs hce hsl hR hR2 kk
    case lstore _ => exact gs_lstore C hc hl P hs hce hsl hR hR2 kk
    case astore _ => exact gs_astore C hc hl P hs hce hsl hR hR2 kk
    case iinc _ _ => exact gs_iinc C hc hl P hs hce hsl hR hR2 kk
    case goto _ => exact gs_goto C hc hl P hs hce hsl hR hR2 kk
    case jsr _ => exact gs_jsr C hc hl P hs hce hsl hR hR2 kk
    case if_icmp _ _ => exact gs_if_icmp C hc hl P hs hce hsl hR hR2 kk
    case ifCond _ _ => exact gs_ifCond C hc hl P hs hce hsl hR hR2 kk
    case tableswitch _ _ _ _ => exact gs_tableswitch C hc hl P hs hce hsl hR hR2 kk
    case lookupswitch _ _ => exact gs_lookupswitch C hc hl P hs hce hsl hR hR2 kk
    case getfield _ => exact gs_getfield C hc hl P hs hce hsl hR hR2 kk
    case putfield _ => exact gs_putfield C hc hl P hs hce hsl hR hR2 kk
    case getstatic _ => exact gs_getstatic C hc hl P hs hce hsl hR hR2 kk
    case iaload => exact gs_iaload C hc hl P hs hce hsl hR hR2 kk
    case baload => exact gs_baload C hc hl P hs hce hsl hR hR2 kk
    case laload => exact gs_laload C hc hl P hs hce hsl hR hR2 kk
    case aaload => exact gs_aaload C hc hl P hs hce hsl hR hR2 kk
    case iastore => exact gs_iastore C hc hl P hs hce hsl hR hR2 kk
    case lastore => exact gs_lastore C hc hl P hs hce hsl hR hR2 kk
    case bastore => exact gs_bastore C hc hl P hs hce hsl hR hR2 kk
    case aastore => exact gs_aastore C hc hl P hs hce hsl hR hR2 kk
    case arraylength => exact gs_arraylength C hc hl P hs hce hsl hR hR2 kk
    case new _ => exact gs_new C hc hl P hs hce hsl hR hR2 kk
    case newarray _ => exact gs_newarray C hc hl P hs hce hsl hR hR2 kk
    case anewarray _ => exact gs_anewarray C hc hl P hs hce hsl hR hR2 kk
    case invokevirtual k =>
      simp only [am_step] at hs
      split at hs <;> cases hs
    case ireturn =>
      simp only [am_step] at hs
      split at hs <;> cases hs
    case lreturn =>
      simp only [am_step] at hs
      split at hs <;> cases hs
    case return_ =>
      simp only [am_step] at hs
      split at hs <;> cases hs
    case areturn =>
      simp only [am_step] at hs
      split at hs
      · split at hs <;> cases hs
      · cases hs
    all_goals cases hs
end SndS
