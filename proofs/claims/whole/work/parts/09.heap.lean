/-! STEPS THAT TOUCH THE HEAP -/
theorem am_fv_mp (base : Nat) (xa : Nat → Nat) (h : aH) (c k i : Nat) : am_mp base id (am_fv h c k i) = am_mp base xa (am_fv h c k i) := by
  unfold am_fv
  cases am_ty c i <;> first | rfl | (cases h.2.1 k i <;> rfl)
theorem am_obj_eq {h : aH} {k c : Nat} (ho : am_obj h k c = true) : h.1[k]? = some (.inl c) := by
  unfold am_obj at ho
  split at ho
  · rename_i d hd
    rw [hd, eq_of_beq ho]
  · cases ho
theorem am_obj_wl {base : Nat} {cA : Nat → ClassId} {h : aH} {k c : Nat} (ho : am_obj h k c = true) : (am_wl base cA h)[k]? = some (base + k, .inr (c, am_fsv base h c k)) := by
  have h1 := am_obj_eq ho
  rw [am_wl_get (List.getElem?_eq_some_iff.mp h1).1]
  unfold am_cell
  rw [h1]
theorem am_inB_in {i : Int32} {n : Nat} (h : am_inB i n = true) : vp_in i n := by
  simp only [am_inB, Bool.not_eq_true', Bool.or_eq_false_iff, decide_eq_false_iff_not] at h
  exact fun q => q.elim h.1 h.2
theorem am_row_eq {h : aH} {k t : Nat} {i : Int32} (hr : am_row h k t i = true) : ∃ n, h.1[k]? = some (.inr (t, n)) ∧ vp_in i n := by
  unfold am_row at hr
  split at hr
  · rename_i u n hd
    rw [Bool.and_eq_true] at hr
    have := eq_of_beq hr.1
    subst this
    exact ⟨n, hd, am_inB_in hr.2⟩
  · cases hr
theorem am_rowR_eq {h : aH} {k : Nat} {i : Int32} (hr : am_rowR h k i = true) : ∃ t n, h.1[k]? = some (.inr (t, n)) ∧ vp_in i n ∧ 3 ≤ t ∧ t < 7 := by
  unfold am_rowR at hr
  split at hr
  · rename_i u n hd
    simp only [Bool.and_eq_true, decide_eq_true_eq] at hr
    exact ⟨u, n, hd, am_inB_in hr.2, hr.1.1, hr.1.2⟩
  · cases hr
theorem am_arr_wl {base : Nat} {cA : Nat → ClassId} {h : aH} {k t n : Nat} (h1 : h.1[k]? = some (.inr (t, n))) : (am_wl base cA h)[k]? = some (base + k, .inl (cA t, am_va base h t n k)) := by
  rw [am_wl_get (List.getElem?_eq_some_iff.mp h1).1]
  unfold am_cell
  rw [h1]
theorem am_cell_congr {base : Nat} {cA : Nat → ClassId} {h h' : aH} {j : Nat} (h1 : h'.1 = h.1) (h2 : h'.2.1 j = h.2.1 j) (h3 : h'.2.2.1 j = h.2.2.1 j) (h4 : h'.2.2.2 j = h.2.2.2 j) : am_cell base cA h' j = am_cell base cA h j := by
  unfold am_cell
  have e5 : ∀ c i, am_fv h' c j i = am_fv h c j i := fun c i => by unfold am_fv; rw [h2, h3, h4]
  have e6 : ∀ c, am_fsv base h' c j = am_fsv base h c j := fun c => by unfold am_fsv; simp only [e5]
  have e7 : ∀ t n, am_va base h' t n j = am_va base h t n j := fun t n => by unfold am_va; rw [h2, h3, h4]
  rw [h1]
  simp only [e6, e7]
theorem am_up_ne {α : Type} {f : Nat → Nat → α} {k i j : Nat} {v : α} (hj : j ≠ k) : am_up f k i v j = f j := by unfold am_up; rw [if_neg hj]
theorem am_up_eq {α : Type} {f : Nat → Nat → α} {k i : Nat} {v : α} : am_up f k i v k = fun b => if b = i then v else f k b := by unfold am_up; rw [if_pos rfl]
theorem am_pf_lay {h h' : aH} {c k i : Nat} {v : Value} (hp : am_pf h c k i v = some h') : h'.1 = h.1 := by
  unfold am_pf at hp
  split at hp <;> first | (cases hp; rfl) | cases hp | (split at hp <;> first | (cases hp; rfl) | cases hp)
theorem am_pf_ne {base : Nat} {cA : Nat → ClassId} {h h' : aH} {c k i : Nat} {v : Value} (hp : am_pf h c k i v = some h') {j : Nat} (hj : j ≠ k) : am_cell base cA h' j = am_cell base cA h j := by
  refine am_cell_congr (am_pf_lay hp) ?_ ?_ ?_ <;>
  · unfold am_pf at hp
    split at hp <;> first | (cases hp; simp [am_up_ne hj]) | (split at hp <;> first | (cases hp; simp [am_up_ne hj]) | cases hp) | cases hp
theorem am_pf_fv {base : Nat} {xa : Nat → Nat} {h h' : aH} {c k i : Nat} {v : Value} (hp : am_pf h c k i v = some h') (j : Nat) : am_mp base id (am_fv h' c k j) = if j = i then am_mp base xa v else am_mp base id (am_fv h c k j) := by
  by_cases hj : j = i
  · subst hj
    rw [if_pos rfl]
    unfold am_pf at hp
    unfold am_fv
    split at hp
    all_goals first
      | (rename_i ht _ _; cases hp; rw [ht]; simp [am_up_eq, am_mp, va_rf]; done)
      | (rename_i ht _; cases hp; rw [ht]; simp [am_up_eq, am_mp, va_rf]; done)
      | (rename_i ht; cases hp; rw [ht]; simp [am_up_eq, am_mp, va_rf]; done)
      | (split at hp <;> first | (cases hp; simp [am_up_eq, am_mp, va_rf, *]; done) | cases hp)
      | cases hp
  · rw [if_neg hj]
    have e1 : h'.2.1 k j = h.2.1 k j ∧ h'.2.2.1 k j = h.2.2.1 k j ∧ h'.2.2.2 k j = h.2.2.2 k j := by
      unfold am_pf at hp
      split at hp <;> first | (cases hp; simp [am_up_eq, hj]; done) | (split at hp <;> first | (cases hp; simp [am_up_eq, hj]; done) | cases hp) | cases hp
    unfold am_fv
    rw [e1.1, e1.2.1, e1.2.2]
theorem am_pf_cell {base : Nat} {xa : Nat → Nat} {cA : Nat → ClassId} {h h' : aH} {c k i : Nat} {v : Value} (ho : am_obj h k c = true) (hp : am_pf h c k i v = some h') : am_cell base cA h' k = .inr (c, (am_fsv base h c k).set i (am_mp base xa v)) := by
  unfold am_cell
  rw [am_pf_lay hp, am_obj_eq ho]
  show (Sum.inr (c, am_fsv base h' c k) : va_E) = _
  congr 2
  apply List.ext_getElem?
  intro j
  unfold am_fsv
  rw [List.getElem?_set]
  by_cases hj : i = j
  · subst hj
    by_cases hn : i < am_N c
    · simp [hn, am_pf_fv (xa := xa) hp]
    · simp [hn]
  · rw [if_neg hj]
    by_cases hn : j < am_N c
    · simp [hn, am_pf_fv (xa := xa) hp, Ne.symm hj]
    · simp [hn]
theorem am_catsum {base : Nat} {xa : Nat → Nat} {S : List Value} (h : S.length ≤ 4) : ((S.map (am_mp base xa)).map (fun v => v.category)).sum ≤ 8 := by
  have hg : ∀ l : List Value, (l.map (fun v => v.category)).sum ≤ 2 * l.length := by
    intro l
    induction l with
    | nil => simp
    | cons v l ih =>
      have : v.category ≤ 2 := by cases v <;> simp [Value.category]
      simp only [List.map_cons, List.sum_cons, List.length_cons]
      omega
  have := hg (S.map (am_mp base xa))
  rw [List.length_map] at this
  omega
theorem am_pf_fit {base : Nat} {xa : Nat → Nat} {h h' : aH} {c k i : Nat} {v : Value} (hp : am_pf h c k i v = some h') : narrow (am_ty c i) (am_mp base xa v) = am_mp base xa v ∧ fits (am_ty c i) (am_mp base xa v) = true := by
  unfold am_pf at hp
  split at hp
  · rename_i ht; rw [ht]; exact ⟨rfl, rfl⟩
  · rename_i ht; rw [ht]
    split at hp
    · rename_i hy
      rcases hy with rfl | rfl <;> exact ⟨rfl, rfl⟩
    · cases hp
  · rename_i ht; rw [ht]; exact ⟨rfl, rfl⟩
  · rename_i ht; rw [ht]; exact ⟨rfl, rfl⟩
  · rename_i ht; rw [ht]; exact ⟨rfl, rfl⟩
  · cases hp

section SndP
variable {p : Program} {l : Launch} {e : Env} {R : Room} {s : State} {m : MethodId} {args : Array Value} {below : List Frame} {meth : Method} {c : Code} {H H0 : Heap} {locs : List Loc} {cells slots : Nat} {Q : State → Prop}
variable {cc : ByteArray} {pc : Nat} {ls : Array Slot} {rest : List Value} {D : va_G} {cl : List vw_C} {tys : List (ClassId × FieldType)} {ws : va_W} {A : Nat → Prop} {a : Nat}
theorem am_put (hexec : p.tables.exec = Jvm.exec) (hb : c.code = cc) {own ref C : String} {T : u_T} {N ci index : Nat} {Ts : List Jvm.Cond} (hts : ∀ w ∈ Ts, w.before args s = true) (hin : ∀ w ∈ u_ws C T N, w ∈ Ts) (ty0 : Nat → FieldType) (hty : ∀ k, k < N → parseFieldDescriptor (T k).2.2.1 = some (ty0 k)) (hnm : ∀ a, a < N → ∀ b, b < N → a ≠ b → (T a).2.1 ≠ (T b).2.1) (hown : s.vm.findClass own = some m.cls) (hK : va_K D cl tys s) (hP : va_P D cl ws H) (hD : va_D A ws) (hS0 : va_S A H0 H locs) (q0 : Nat) {fs : List Value} (he : ws[q0]? = some (a, .inr (ci, fs))) (hc : cl[ci]? = some (C, T, N)) (k : Nat) (hk : k < N) (hlink : (Jvm.Cond.fieldLink own index ref (T k).2.1 (T k).2.2.1).before args s = true) (hsame : ∀ x, s.fieldFound? (T k).1 (T k).2.1 (T k).2.2.1 = some x → s.fieldFound? ref (T k).2.1 (T k).2.2.1 = some x) (hfin : (T k).2.2.2 = false) {ty : FieldType} {v : Value} (hd : parseFieldDescriptor (T k).2.2.1 = some ty) (hn : narrow ty v = v) (hfit : fits ty v = true) (hl : k < fs.length)
    (hdg : decode cc pc = .ok (.putfield index, 3)) (kk : ∀ (H1 : Heap) (locs1 : List Loc), va_P D cl (ws.set q0 (a, .inr (ci, fs.set k v))) H1 → va_D A (ws.set q0 (a, .inr (ci, fs.set k v))) → va_S A H0 H1 locs1 → H1.size = H.size → W p l e R s m args below meth c H1 locs1 cells slots Q (F0 m (pc + 3) ls rest)) : W p l e R s m args below meth c H locs cells slots Q (F0 m pc ls (v :: .ref a :: rest)) := by
  have hap := va_apart (own := own) hts hin ty0 hty hnm hK hc
  obtain ⟨r, h1, cell, q1, q2, q3, q4⟩ := hP q0 _ he
  have hr : r = (C, T, N) := Option.some.inj (h1.symm.trans hc)
  subst hr
  obtain ⟨hS, hfc, kC, hkC, hkind⟩ := hK.1 ci _ hc
  obtain ⟨cf, kf, fi, f, hi, hsl⟩ := hS k hk
  have hlay := hts _ (hin _ (u_in_lay hk))
  unfold u_lay at hlay
  rw [if_neg (by rw [hfin]; decide)] at hlay
  have hst := (u_facts hfc hkC (u_lays hts hin hk) hi).1
  have h6 := u_store hfc hkC hkind hlay hi hd hn hfit
  refine W.putK hexec hb (f := f) ⟨hown, hlink, ⟨_, _, _, hsame _ hi⟩, hst⟩ (by rw [q2]; exact h6) q1 q3 (by rw [hsl]; exact k2_hasslot (q4 k hk)) rfl rfl hdg fun H' e1 e2 e3 => ?_
  rw [hsl] at e1 ⊢
  exact kk H' _ (hP.set hD he ⟨_, hc, t_OB.to (V := updV (vp_V fs) k v) ⟨_, e1, q2, q3, t_set q4 hap hk v⟩ (fun j _ => vp_updV_set hl v j)⟩ e3) (hD.set he) (hS0.put e2 e3 (hD.2 q0 _ he)) e2
theorem am_putF (hexec : p.tables.exec = Jvm.exec) (hb : c.code = cc) {own ref C : String} {T : u_T} {N ci index : Nat} {Ts : List Jvm.Cond} (hts : ∀ w ∈ Ts, w.before args s = true) (hin : ∀ w ∈ u_ws C T N, w ∈ Ts) (ty0 : Nat → FieldType) (hty : ∀ k, k < N → parseFieldDescriptor (T k).2.2.1 = some (ty0 k)) (hnm : ∀ a, a < N → ∀ b, b < N → a ≠ b → (T a).2.1 ≠ (T b).2.1) (hown : s.vm.findClass own = some m.cls) (hK : va_K D cl tys s) (hP : va_P D cl ws H) (hD : va_D A ws) (hS0 : va_S A H0 H locs) (q0 : Nat) {fs : List Value} (he : ws[q0]? = some (a, .inr (ci, fs))) (hc : cl[ci]? = some (C, T, N)) (k : Nat) (hk : k < N) (hlink : (Jvm.Cond.fieldLink own index ref (T k).2.1 (T k).2.2.1).before args s = true) (hsame : ∀ x, s.fieldFound? (T k).1 (T k).2.1 (T k).2.2.1 = some x → s.fieldFound? ref (T k).2.1 (T k).2.2.1 = some x) (hin2 : meth.name = "<init>") (hdecl : (T k).1 = own) (hfin : (T k).2.2.2 = true) {ty : FieldType} {v : Value} (hd : parseFieldDescriptor (T k).2.2.1 = some ty) (hn : narrow ty v = v) (hfit : fits ty v = true) (hl : k < fs.length)
    (hdg : decode cc pc = .ok (.putfield index, 3)) (kk : ∀ (H1 : Heap) (locs1 : List Loc), va_P D cl (ws.set q0 (a, .inr (ci, fs.set k v))) H1 → va_D A (ws.set q0 (a, .inr (ci, fs.set k v))) → va_S A H0 H1 locs1 → H1.size = H.size → W p l e R s m args below meth c H1 locs1 cells slots Q (F0 m (pc + 3) ls rest)) : W p l e R s m args below meth c H locs cells slots Q (F0 m pc ls (v :: .ref a :: rest)) := by
  have hap := va_apart (own := own) hts hin ty0 hty hnm hK hc
  obtain ⟨r, h1, cell, q1, q2, q3, q4⟩ := hP q0 _ he
  have hr : r = (C, T, N) := Option.some.inj (h1.symm.trans hc)
  subst hr
  obtain ⟨hS, hfc, kC, hkC, hkind⟩ := hK.1 ci _ hc
  obtain ⟨cf, kf, fi, f, hi, hsl⟩ := hS k hk
  have hlay := hts _ (hin _ (u_in_lay hk))
  unfold u_lay at hlay
  rw [if_pos hfin] at hlay
  have hst := (u_facts hfc hkC (u_lays hts hin hk) hi).1
  have hcf : m.cls = cf := by
    obtain ⟨_, _, c', _, _, _, -, -, hf', -, -, -, hown2, -⟩ := Cond.laysFinal_spec hlay
    have e1 : c' = cf := by have := hi.symm.trans hf'; simp at this; exact this.1.symm
    rw [hdecl] at hown2
    rw [← e1]; exact Option.some.inj (hown.symm.trans hown2)
  have h6 := u_fits hfc hkC hkind (Or.inr hlay) hi hd hn hfit
  refine W.putFinK hexec hb hown hlink (hsame _ hi) hst hcf hin2 (by rw [q2]; exact h6) q1 q3 (by rw [hsl]; exact k2_hasslot (q4 k hk)) rfl rfl hdg fun H' e1 e2 e3 => ?_
  rw [hsl] at e1 ⊢
  exact kk H' _ (hP.set hD he ⟨_, hc, t_OB.to (V := updV (vp_V fs) k v) ⟨_, e1, q2, q3, t_set q4 hap hk v⟩ (fun j _ => vp_updV_set hl v j)⟩ e3) (hD.set he) (hS0.put e2 e3 (hD.2 q0 _ he)) e2
end SndP

section SndA
variable {p : Program} {l : Launch} {e : Env} {R : Room} {s : State} {m : MethodId} {args : Array Value} {below : List Frame} {meth : Method} {c : Code} {H H0 : Heap} {locs : List Loc} {cells slots : Nat} {Q : State → Prop}
variable {cc : ByteArray} {pc : Nat} {ls : Array Slot} {rest : List Value} {D : va_G} {cl : List vw_C} {tys : List (ClassId × FieldType)} {ws : va_W} {A : Nat → Prop} {a : Nat}

theorem am_iast (hexec : p.tables.exec = Jvm.exec) (hb : c.code = cc) (hK : va_K D cl tys s) (hP : va_P D cl ws H) (hD : va_D A ws) (hS : va_S A H0 H locs) (q0 t0 : Nat) {cA : ClassId} {n : Nat} {f : Nat → Int32} (ha : ws[q0]? = some (a, .inl (cA, n, .inl (f)))) (ht : tys[t0]? = some (cA, .int)) {i : Int32} {x : Int32} (hin : vp_in i n) (hdg : decode cc pc = .ok (.iastore, 1))
    (kk : ∀ (H1 : Heap) (locs1 : List Loc), va_P D cl (ws.set q0 (a, .inl (cA, n, .inl (upd f i.toNatClampNeg x)))) H1 → va_S A H0 H1 locs1 → H1.size = H.size → W p l e R s m args below meth c H1 locs1 cells slots Q (F0 m (pc + 1) ls rest)) : W p l e R s m args below meth c H locs cells slots Q (F0 m pc ls (.int x :: .int i :: .ref a :: rest)) := by
  refine W.iast hexec hb (hP q0 _ ha) ((hK.2 t0 _ ht).1 n (fun j => .int (f j))) (fun q => by cases q) (by show ¬ (i < 0 ∨ (arrV _ _ _).slots.size ≤ _); rw [arrV_size]; exact hin) rfl rfl hdg fun H1 e z oq => ?_
  refine kk H1 _ (hP.set hD ha ?_ oq) (hS.put z oq (hD.2 q0 _ ha)) z
  show H1[a]? = some (vp_cell _ _)
  rw [e]
  rw [vp_cell_i, vp_cell_i, arrV_store]
  congr 2
  funext q
  by_cases hq : q = i.toNatClampNeg
  · subst hq
    simp [updV, upd]
    try rfl
  · simp [updV, upd, hq]

theorem am_zast (hexec : p.tables.exec = Jvm.exec) (hb : c.code = cc) (hK : va_K D cl tys s) (hP : va_P D cl ws H) (hD : va_D A ws) (hS : va_S A H0 H locs) (q0 t0 : Nat) {cA : ClassId} {n : Nat} {f : Nat → Int32} (ha : ws[q0]? = some (a, .inl (cA, n, .inl (f)))) (ht : tys[t0]? = some (cA, .boolean)) {i : Int32} {x : Int32} (hin : vp_in i n) (hdg : decode cc pc = .ok (.bastore, 1))
    (kk : ∀ (H1 : Heap) (locs1 : List Loc), va_P D cl (ws.set q0 (a, .inl (cA, n, .inl (upd f i.toNatClampNeg (vp_nar .boolean x))))) H1 → va_S A H0 H1 locs1 → H1.size = H.size → W p l e R s m args below meth c H1 locs1 cells slots Q (F0 m (pc + 1) ls rest)) : W p l e R s m args below meth c H locs cells slots Q (F0 m pc ls (.int x :: .int i :: .ref a :: rest)) := by
  refine W.zast hexec hb (hP q0 _ ha) ((hK.2 t0 _ ht).1 n (fun j => .int (f j))) (fun q => by cases q) (by show ¬ (i < 0 ∨ (arrV _ _ _).slots.size ≤ _); rw [arrV_size]; exact hin) rfl rfl hdg fun H1 e z oq => ?_
  refine kk H1 _ (hP.set hD ha ?_ oq) (hS.put z oq (hD.2 q0 _ ha)) z
  show H1[a]? = some (vp_cell _ _)
  rw [e]
  rw [vp_cell_i, vp_cell_i, arrV_store]
  congr 2
  funext q
  by_cases hq : q = i.toNatClampNeg
  · subst hq
    simp [updV, upd, vp_nar]
    try rfl
  · simp [updV, upd, vp_nar, hq]

theorem am_last (hexec : p.tables.exec = Jvm.exec) (hb : c.code = cc) (hK : va_K D cl tys s) (hP : va_P D cl ws H) (hD : va_D A ws) (hS : va_S A H0 H locs) (q0 t0 : Nat) {cA : ClassId} {n : Nat} {f : Nat → Int64} (ha : ws[q0]? = some (a, .inl (cA, n, .inr (.inl (f))))) (ht : tys[t0]? = some (cA, .long)) {i : Int32} {x : Int64} (hin : vp_in i n) (hdg : decode cc pc = .ok (.lastore, 1))
    (kk : ∀ (H1 : Heap) (locs1 : List Loc), va_P D cl (ws.set q0 (a, .inl (cA, n, .inr (.inl (vp_updL f i.toNatClampNeg x))))) H1 → va_S A H0 H1 locs1 → H1.size = H.size → W p l e R s m args below meth c H1 locs1 cells slots Q (F0 m (pc + 1) ls rest)) : W p l e R s m args below meth c H locs cells slots Q (F0 m pc ls (.long x :: .int i :: .ref a :: rest)) := by
  refine W.last hexec hb (hP q0 _ ha) ((hK.2 t0 _ ht).1 n (fun j => .long (f j))) (fun q => by cases q) (by show ¬ (i < 0 ∨ (arrV _ _ _).slots.size ≤ _); rw [arrV_size]; exact hin) rfl rfl hdg fun H1 e z oq => ?_
  refine kk H1 _ (hP.set hD ha ?_ oq) (hS.put z oq (hD.2 q0 _ ha)) z
  show H1[a]? = some (vp_cell _ _)
  rw [e]
  rw [vp_cell_l, vp_cell_l, arrV_store]
  congr 2
  funext q
  by_cases hq : q = i.toNatClampNeg
  · subst hq
    simp [updV, vp_updL]
    try rfl
  · simp [updV, vp_updL, hq]

theorem am_astq (hexec : p.tables.exec = Jvm.exec) (hb : c.code = cc) (hK : va_K D cl tys s) (hP : va_P D cl ws H) (hD : va_D A ws) (hS : va_S A H0 H locs) (q0 t0 qk ci : Nat) {cA : ClassId} {r : vw_C} {n v : Nat} {vs : List Value} {f : Nat → Option Nat} (ha : ws[q0]? = some (a, .inl (cA, n, .inr (.inr (.inr (.inr f)))))) (ht : tys[t0]? = some (cA, .object r.1)) (hv : ws[qk]? = some (v, .inr (ci, vs))) (hc : cl[ci]? = some r) {i : Int32} (hin : vp_in i n) (hdg : decode cc pc = .ok (.aastore, 1))
    (kk : ∀ (H1 : Heap) (locs1 : List Loc), va_P D cl (ws.set q0 (a, .inl (cA, n, .inr (.inr (.inr (.inr (va_up f i.toNatClampNeg (some v)))))))) H1 → va_S A H0 H1 locs1 → H1.size = H.size → W p l e R s m args below meth c H1 locs1 cells slots Q (F0 m (pc + 1) ls rest)) : W p l e R s m args below meth c H locs cells slots Q (F0 m pc ls (.ref v :: .int i :: .ref a :: rest)) := by
  have hlt : i.toNatClampNeg < n := Nat.not_le.mp fun q => hin (Or.inr q)
  have h0 : ¬ i < 0 := fun q => hin (Or.inl q)
  obtain ⟨r', hr', cellV, g1, g2, g3, -⟩ := hP qk _ hv
  have hcls := (hK.1 ci r hc).2
  obtain ⟨kA, comp, k1, k2, k3, -⟩ := (hK.2 t0 _ ht).2
  have hcomp : comp = D.1 ci := Option.some.inj (k3.symm.trans hcls.1)
  subst hcomp
  obtain ⟨kC, hkC, -⟩ := hcls.2
  refine W.aast hexec hb (hP q0 _ ha) (fun q h => by cases h) (fun h => by cases h) k1 k2 rfl hkC ⟨h0, by show _ < (arrV _ _ _).slots.size; rw [arrV_size]; exact hlt⟩ g1 (fun q h => by rw [g3] at h; cases h) (by rw [g2]; exact hkC) (by rw [g2]; exact va_assign hcls) rfl rfl hdg fun H1 e z oq => ?_
  refine kk H1 _ (hP.set hD ha ?_ oq) (hS.put z oq (hD.2 q0 _ ha)) z
  show H1[a]? = some (vp_cell _ _)
  rw [e]
  rw [vp_cell_q, vp_cell_q, arrV_store]
  congr 2
  funext q
  by_cases hq : q = i.toNatClampNeg
  · subst hq
    simp [updV, va_up, va_rf]
  · simp [updV, va_up, hq]
end SndA

section SndH
variable {E : aE} {base : Nat} {xa : Nat → Nat} {dC : Nat → ClassId} {dI : Nat → Nat → Nat} {cA : Nat → ClassId}
variable {p : Program} {l : Launch} {e : Env} {R : Room} {s : State} {m : MethodId} {args : Array Value} {below : List Frame} {meth : Method} {cd : Code} {H : Heap} {locs : List Loc} {cells slots : Nat} {Q : State → Prop}
variable {M pc : Nat} {ls : Array Slot} {c : List Instr} {L S : List Value} {h h' : aH}

theorem go_getf (C : am_ctx E base xa dC dI cA M p R s m args meth cd) (P : am_hp base dC dI cA s h H locs) {x k : Nat} (ho : am_obj h k (x / 64) = true) (hc : am_chk M pc (.getfield x :: c) = true) (kk : am_chk M (pc + 3) c = true → W p l e R s m args below meth cd H locs cells slots Q (F0 m (pc + 3) ls (am_mp base xa (am_fv h (x / 64) k (x % 64)) :: S.map (am_mp base xa)))) : W p l e R s m args below meth cd H locs cells slots Q (F0 m pc ls (.ref (base + k) :: S.map (am_mp base xa))) := by
  obtain ⟨j, len, h1, h2, h3⟩ := am_chk_cons (fun t e => by cases e) hc
  simp only [am_ins, Bool.and_eq_true, decide_eq_true_eq, beq_iff_eq, List.any_eq_true] at h2
  obtain ⟨⟨⟨rfl, hc1⟩, hi⟩, q, hq, ⟨hq1, rfl⟩, hq2⟩ := h2
  have hw := C.2.2.2.2.1 _ (am_wd_in (List.all_eq_true.mp am_F_ok q hq))
  unfold am_fw at hw
  rw [hq1, hq2] at hw
  have kk := kk h3
  rw [← am_fv_mp] at kk
  exact va_get (D := (dC, dI)) (C := am_cls (x / 64)) (T := am_Tx (x / 64)) (N := am_N (x / 64)) C.1 C.2.1 C.2.2.2.2.1 (am_wx_ok _ hc1) C.2.2.2.1 C.2.2.2.2.2.2.2.1.1 P.1 k (am_obj_wl ho) (am_vwCl hc1) (x % 64) hi hw (fun _ h9 => h9) (by simp [am_fsv, hi]) h1 kk
theorem go_putf (C : am_ctx E base xa dC dI cA M p R s m args meth cd) (P : am_hp base dC dI cA s h H locs) {x k : Nat} {v : Value} (ho : am_obj h k (x / 64) = true) (hp : am_pf h (x / 64) k (x % 64) v = some h') (hc : am_chk M pc (.putfield x :: c) = true) (kk : ∀ H' locs', am_chk M (pc + 3) c = true → am_hp base dC dI cA s h' H' locs' → W p l e R s m args below meth cd H' locs' cells slots Q (F0 m (pc + 3) ls (S.map (am_mp base xa)))) : W p l e R s m args below meth cd H locs cells slots Q (F0 m pc ls (am_mp base xa v :: .ref (base + k) :: S.map (am_mp base xa))) := by
  obtain ⟨j, len, h1, h2, h3⟩ := am_chk_cons (fun t e => by cases e) hc
  simp only [am_ins, Bool.and_eq_true, Bool.or_eq_true, decide_eq_true_eq, beq_iff_eq, List.any_eq_true] at h2
  obtain ⟨⟨⟨⟨rfl, hc1⟩, hi⟩, q, hq, ⟨hq1, rfl⟩, hq2⟩, hfin⟩ := h2
  have hw := C.2.2.2.2.1 _ (am_wd_in (List.all_eq_true.mp am_F_ok q hq))
  unfold am_fw at hw
  rw [hq1, hq2] at hw
  have hset : (am_wl base cA h).set k (base + k, .inr (x / 64, (am_fsv base h (x / 64) k).set (x % 64) (am_mp base xa v))) = am_wl base cA h' := by
    rw [← am_pf_cell (xa := xa) ho hp]
    exact am_wl_set (am_pf_lay hp) (fun j hj => am_pf_ne hp hj)
  have hfit := am_pf_fit (base := base) (xa := xa) hp
  have fin : ∀ (H1 : Heap) (locs1 : List Loc), va_P (dC, dI) vwCl ((am_wl base cA h).set k (base + k, .inr (x / 64, (am_fsv base h (x / 64) k).set (x % 64) (am_mp base xa v)))) H1 → va_S (fun q => base ≤ q) s.heap H1 locs1 → H1.size = H.size → am_hp base dC dI cA s h' H1 locs1 := by
    intro H1 locs1 g1 g2 g3
    rw [hset] at g1
    exact ⟨g1, by rw [g3, P.2.1, am_pf_lay hp], g2⟩
  by_cases hff : (am_Tx (x / 64) (x % 64)).2.2.2 = false
  · exact am_put (D := (dC, dI)) (C := am_cls (x / 64)) (T := am_Tx (x / 64)) (N := am_N (x / 64)) C.1 C.2.1 C.2.2.2.2.1 (am_wx_ok _ hc1) (am_ty (x / 64)) (am_ty_ok _ hc1) (am_nm_ok _ hc1) C.2.2.2.1 C.2.2.2.2.2.2.2.1.1 P.1 (am_wl_D base cA h) P.2.2 k (am_obj_wl ho) (am_vwCl hc1) (x % 64) hi hw (fun _ h9 => h9) hff (am_ty_ok _ hc1 _ hi) hfit.1 hfit.2 (by simp [am_fsv, hi]) h1 (fun H1 locs1 g1 g2 g3 g4 => kk H1 locs1 h3 (fin H1 locs1 g1 g3 g4))
  · obtain ⟨hfi1, hfi2⟩ := hfin.resolve_left hff
    exact am_putF (D := (dC, dI)) (C := am_cls (x / 64)) (T := am_Tx (x / 64)) (N := am_N (x / 64)) C.1 C.2.1 C.2.2.2.2.1 (am_wx_ok _ hc1) (am_ty (x / 64)) (am_ty_ok _ hc1) (am_nm_ok _ hc1) C.2.2.2.1 C.2.2.2.2.2.2.2.1.1 P.1 (am_wl_D base cA h) P.2.2 k (am_obj_wl ho) (am_vwCl hc1) (x % 64) hi hw (fun _ h9 => h9) (C.2.2.2.2.2.2.2.2 hfi1) hfi2 (by simpa using hff) (am_ty_ok _ hc1 _ hi) hfit.1 hfit.2 (by simp [am_fsv, hi]) h1 (fun H1 locs1 g1 g2 g3 g4 => kk H1 locs1 h3 (fin H1 locs1 g1 g3 g4))
theorem am_tyK (C : am_ctx E base xa dC dI cA M p R s m args meth cd) {t : Nat} (ht : t < 7) : (am_tys cA)[t]? = some (cA t, am_et t) := am_tys_get ht
theorem go_iaload (C : am_ctx E base xa dC dI cA M p R s m args meth cd) (P : am_hp base dC dI cA s h H locs) {k : Nat} {i : Int32} (hr : am_row h k 0 i = true) (hc : am_chk M pc (.iaload :: c) = true) (kk : am_chk M (pc + 1) c = true → W p l e R s m args below meth cd H locs cells slots Q (F0 m (pc + 1) ls (.int (h.2.2.1 k i.toNatClampNeg) :: S.map (am_mp base xa)))) : W p l e R s m args below meth cd H locs cells slots Q (F0 m pc ls (.int i :: .ref (base + k) :: S.map (am_mp base xa))) := by
  obtain ⟨n, h1, h2⟩ := am_row_eq hr
  exact va_iald C.1 C.2.1 C.2.2.2.2.2.2.2.1.1 P.1 k 0 (am_arr_wl h1) (am_tys_get (by decide)) h2 (in_iaload hc).1 (kk (in_iaload hc).2)
theorem go_baload (C : am_ctx E base xa dC dI cA M p R s m args meth cd) (P : am_hp base dC dI cA s h H locs) {k : Nat} {i : Int32} (hr : am_row h k 1 i = true) (hc : am_chk M pc (.baload :: c) = true) (kk : am_chk M (pc + 1) c = true → W p l e R s m args below meth cd H locs cells slots Q (F0 m (pc + 1) ls (.int (h.2.2.1 k i.toNatClampNeg) :: S.map (am_mp base xa)))) : W p l e R s m args below meth cd H locs cells slots Q (F0 m pc ls (.int i :: .ref (base + k) :: S.map (am_mp base xa))) := by
  obtain ⟨n, h1, h2⟩ := am_row_eq hr
  exact va_zald C.1 C.2.1 C.2.2.2.2.2.2.2.1.1 P.1 k 1 (am_arr_wl h1) (am_tys_get (by decide)) h2 (in_baload hc).1 (kk (in_baload hc).2)
theorem go_laload (C : am_ctx E base xa dC dI cA M p R s m args meth cd) (P : am_hp base dC dI cA s h H locs) {k : Nat} {i : Int32} (hr : am_row h k 2 i = true) (hc : am_chk M pc (.laload :: c) = true) (kk : am_chk M (pc + 1) c = true → W p l e R s m args below meth cd H locs cells slots Q (F0 m (pc + 1) ls (.long (h.2.2.2 k i.toNatClampNeg) :: S.map (am_mp base xa)))) : W p l e R s m args below meth cd H locs cells slots Q (F0 m pc ls (.int i :: .ref (base + k) :: S.map (am_mp base xa))) := by
  obtain ⟨n, h1, h2⟩ := am_row_eq hr
  exact va_lald C.1 C.2.1 C.2.2.2.2.2.2.2.1.1 P.1 k 2 (am_arr_wl h1) (am_tys_get (by decide)) h2 (in_laload hc).1 (kk (in_laload hc).2)
theorem go_xld (C : am_ctx E base xa dC dI cA M p R s m args meth cd) (P : am_hp base dC dI cA s h H locs) {k : Nat} {i : Int32} (hk : k < 3) (hi : am_inB i (E k).1 = true) (hc : am_chk M pc (.iaload :: c) = true) (kk : am_chk M (pc + 1) c = true → W p l e R s m args below meth cd H locs cells slots Q (F0 m (pc + 1) ls (.int ((E k).2 i.toNatClampNeg) :: S.map (am_mp base xa)))) : W p l e R s m args below meth cd H locs cells slots Q (F0 m pc ls (.int i :: .ref (xa k) :: S.map (am_mp base xa))) := by
  obtain ⟨hT, hX, hb⟩ := C.2.2.2.2.2.2.2.1.2.2.2.2.1
  by_cases hk2 : k < 2
  · exact va_ti C.1 C.2.1 (hT k hk2) P.2.2 (am_inB_in hi) rfl (in_iaload hc).1 (kk (in_iaload hc).2)
  have hk3 : k = 2 := by omega
  subst hk3
  exact va_sld C.1 C.2.1 hX (Nat.lt_of_lt_of_le hb C.2.2.2.2.2.2.2.1.2.2.2.2.2) (Nat.not_le.mpr hb) P.2.2 (am_inB_in hi) (in_iaload hc).1 (kk (in_iaload hc).2)
theorem go_xlen (C : am_ctx E base xa dC dI cA M p R s m args meth cd) (P : am_hp base dC dI cA s h H locs) {k : Nat} (hk : k = 2) (hc : am_chk M pc (.arraylength :: c) = true) (kk : am_chk M (pc + 1) c = true → W p l e R s m args below meth cd H locs cells slots Q (F0 m (pc + 1) ls (.int (Int32.ofNat (E k).1) :: S.map (am_mp base xa)))) : W p l e R s m args below meth cd H locs cells slots Q (F0 m pc ls (.ref (xa k) :: S.map (am_mp base xa))) := by
  subst hk
  obtain ⟨hT, hX, hb⟩ := C.2.2.2.2.2.2.2.1.2.2.2.2.1
  exact va_slen C.1 C.2.1 hX (Nat.lt_of_lt_of_le hb C.2.2.2.2.2.2.2.1.2.2.2.2.2) (Nat.not_le.mpr hb) P.2.2 (in_arraylength hc).1 (kk (in_arraylength hc).2)
theorem am_rf_mp (base : Nat) (xa : Nat → Nat) (r : Option Nat) : va_rf (r.map (fun j => base + j)) = am_mp base xa (va_rf r) := by cases r <;> rfl
theorem am_va_q {base : Nat} {h : aH} {t n k : Nat} (ht : 3 ≤ t) : am_va base h t n k = (n, .inr (.inr (.inr (.inr (fun i => (h.2.1 k i).map (fun j => base + j)))))) := by
  unfold am_va
  rw [if_neg (by omega), if_neg (by omega)]
theorem am_et_q {t : Nat} (ht : 3 ≤ t) : am_et t = .object ((am_AO[t - 3]?).getD "") := by
  obtain ⟨k, rfl⟩ : ∃ k, t = k + 3 := ⟨t - 3, by omega⟩
  rfl
theorem go_aaload (C : am_ctx E base xa dC dI cA M p R s m args meth cd) (P : am_hp base dC dI cA s h H locs) {k : Nat} {i : Int32} (hr : am_rowR h k i = true) (hc : am_chk M pc (.aaload :: c) = true) (kk : am_chk M (pc + 1) c = true → W p l e R s m args below meth cd H locs cells slots Q (F0 m (pc + 1) ls (am_mp base xa (va_rf (h.2.1 k i.toNatClampNeg)) :: S.map (am_mp base xa)))) : W p l e R s m args below meth cd H locs cells slots Q (F0 m pc ls (.int i :: .ref (base + k) :: S.map (am_mp base xa))) := by
  obtain ⟨t, n, h1, h2, h3, h4⟩ := am_rowR_eq hr
  have kk := kk (in_aaload hc).2
  rw [← am_rf_mp] at kk
  exact va_aldq (f := fun i => (h.2.1 k i).map (fun j => base + j)) C.1 C.2.1 C.2.2.2.2.2.2.2.1.1 P.1 k t (by rw [am_arr_wl h1, am_va_q h3]) (by rw [am_tys_get h4, am_et_q h3]) h2 (in_aaload hc).1 kk
theorem go_iastore (C : am_ctx E base xa dC dI cA M p R s m args meth cd) (P : am_hp base dC dI cA s h H locs) {k : Nat} {i : Int32} {v : Int32} (hr : am_row h k 0 i = true)  (hc : am_chk M pc (.iastore :: c) = true) (kk : ∀ H' locs', am_chk M (pc + 1) c = true → am_hp base dC dI cA s ((h.1, h.2.1, am_up h.2.2.1 k i.toNatClampNeg v, h.2.2.2)) H' locs' → W p l e R s m args below meth cd H' locs' cells slots Q (F0 m (pc + 1) ls (S.map (am_mp base xa)))) : W p l e R s m args below meth cd H locs cells slots Q (F0 m pc ls (.int v :: .int i :: .ref (base + k) :: S.map (am_mp base xa))) := by
  obtain ⟨n, h1, h2⟩ := am_row_eq hr
  refine am_iast C.1 C.2.1 C.2.2.2.2.2.2.2.1.1 P.1 (am_wl_D base cA h) P.2.2 k 0 (am_arr_wl h1) (am_tys_get (by decide)) h2 (in_iastore hc).1 (fun H1 locs1 g1 g2 g3 => kk H1 locs1 (in_iastore hc).2 ⟨?_, by rw [g3, P.2.1], g2⟩)
  · refine Eq.mp (congrArg (fun z => va_P (dC, dI) vwCl z H1) (Eq.trans (congrArg (fun z => (am_wl base cA h).set k z) ?_) (am_wl_set (h' := (h.1, h.2.1, am_up h.2.2.1 k i.toNatClampNeg v, h.2.2.2)) (k := k) rfl (fun j hj => am_cell_congr rfl (by first | rfl | exact am_up_ne hj) (by first | rfl | exact am_up_ne hj) (by first | rfl | exact am_up_ne hj))))) g1
    unfold am_cell
    dsimp only
    rw [h1]
    dsimp only [am_va]
    rw [am_up_eq]
    rfl
theorem go_bastore (C : am_ctx E base xa dC dI cA M p R s m args meth cd) (P : am_hp base dC dI cA s h H locs) {k : Nat} {i : Int32} {v : Int32} (hr : am_row h k 1 i = true) (hv : v = 0 ∨ v = 1) (hc : am_chk M pc (.bastore :: c) = true) (kk : ∀ H' locs', am_chk M (pc + 1) c = true → am_hp base dC dI cA s ((h.1, h.2.1, am_up h.2.2.1 k i.toNatClampNeg v, h.2.2.2)) H' locs' → W p l e R s m args below meth cd H' locs' cells slots Q (F0 m (pc + 1) ls (S.map (am_mp base xa)))) : W p l e R s m args below meth cd H locs cells slots Q (F0 m pc ls (.int v :: .int i :: .ref (base + k) :: S.map (am_mp base xa))) := by
  obtain ⟨n, h1, h2⟩ := am_row_eq hr
  refine am_zast C.1 C.2.1 C.2.2.2.2.2.2.2.1.1 P.1 (am_wl_D base cA h) P.2.2 k 1 (am_arr_wl h1) (am_tys_get (by decide)) h2 (in_bastore hc).1 (fun H1 locs1 g1 g2 g3 => kk H1 locs1 (in_bastore hc).2 ⟨?_, by rw [g3, P.2.1], g2⟩)
  · refine Eq.mp (congrArg (fun z => va_P (dC, dI) vwCl z H1) (Eq.trans (congrArg (fun z => (am_wl base cA h).set k z) ?_) (am_wl_set (h' := (h.1, h.2.1, am_up h.2.2.1 k i.toNatClampNeg v, h.2.2.2)) (k := k) rfl (fun j hj => am_cell_congr rfl (by first | rfl | exact am_up_ne hj) (by first | rfl | exact am_up_ne hj) (by first | rfl | exact am_up_ne hj))))) g1
    unfold am_cell
    dsimp only
    rw [h1]
    dsimp only [am_va]
    rw [show vp_nar .boolean v = v by rcases hv with rfl | rfl <;> rfl]
    rw [am_up_eq]
    rfl
theorem go_lastore (C : am_ctx E base xa dC dI cA M p R s m args meth cd) (P : am_hp base dC dI cA s h H locs) {k : Nat} {i : Int32} {v : Int64} (hr : am_row h k 2 i = true)  (hc : am_chk M pc (.lastore :: c) = true) (kk : ∀ H' locs', am_chk M (pc + 1) c = true → am_hp base dC dI cA s ((h.1, h.2.1, h.2.2.1, am_up h.2.2.2 k i.toNatClampNeg v)) H' locs' → W p l e R s m args below meth cd H' locs' cells slots Q (F0 m (pc + 1) ls (S.map (am_mp base xa)))) : W p l e R s m args below meth cd H locs cells slots Q (F0 m pc ls (.long v :: .int i :: .ref (base + k) :: S.map (am_mp base xa))) := by
  obtain ⟨n, h1, h2⟩ := am_row_eq hr
  refine am_last C.1 C.2.1 C.2.2.2.2.2.2.2.1.1 P.1 (am_wl_D base cA h) P.2.2 k 2 (am_arr_wl h1) (am_tys_get (by decide)) h2 (in_lastore hc).1 (fun H1 locs1 g1 g2 g3 => kk H1 locs1 (in_lastore hc).2 ⟨?_, by rw [g3, P.2.1], g2⟩)
  · refine Eq.mp (congrArg (fun z => va_P (dC, dI) vwCl z H1) (Eq.trans (congrArg (fun z => (am_wl base cA h).set k z) ?_) (am_wl_set (h' := (h.1, h.2.1, h.2.2.1, am_up h.2.2.2 k i.toNatClampNeg v)) (k := k) rfl (fun j hj => am_cell_congr rfl (by first | rfl | exact am_up_ne hj) (by first | rfl | exact am_up_ne hj) (by first | rfl | exact am_up_ne hj))))) g1
    unfold am_cell
    dsimp only
    rw [h1]
    dsimp only [am_va]
    rw [am_up_eq]
    rfl
theorem go_aastore (C : am_ctx E base xa dC dI cA M p R s m args meth cd) (P : am_hp base dC dI cA s h H locs) {k j : Nat} {i : Int32} (hr : am_rowR h k i = true) (hf : am_fit h k j = true) (hc : am_chk M pc (.aastore :: c) = true) (kk : ∀ H' locs', am_chk M (pc + 1) c = true → am_hp base dC dI cA s (h.1, am_up h.2.1 k i.toNatClampNeg (some j), h.2.2) H' locs' → W p l e R s m args below meth cd H' locs' cells slots Q (F0 m (pc + 1) ls (S.map (am_mp base xa)))) : W p l e R s m args below meth cd H locs cells slots Q (F0 m pc ls (.ref (base + j) :: .int i :: .ref (base + k) :: S.map (am_mp base xa))) := by
  obtain ⟨t, n, h1, h2, h3, h4⟩ := am_rowR_eq hr
  unfold am_fit at hf
  rw [h1] at hf
  split at hf
  · rename_i u n' c' e1 e2
    cases e1
    simp only [Bool.and_eq_true, decide_eq_true_eq] at hf
    have hj : (am_wl base cA h)[j]? = some (base + j, .inr (c', am_fsv base h c' j)) := am_obj_wl (by unfold am_obj; rw [e2]; simp)
    refine am_astq (f := fun i => (h.2.1 k i).map (fun j => base + j)) (r := (am_cls c', am_Tx c', am_N c')) C.1 C.2.1 C.2.2.2.2.2.2.2.1.1 P.1 (am_wl_D base cA h) P.2.2 k t j c' (by rw [am_arr_wl h1, am_va_q h3]) (by rw [am_tys_get h4, am_et_q h3, ← hf.2]) hj (am_vwCl hf.1.2) h2 (in_aastore hc).1 (fun H1 locs1 g1 g2 g3 => kk H1 locs1 (in_aastore hc).2 ⟨?_, by rw [g3, P.2.1], g2⟩)
    refine Eq.mp (congrArg (fun z => va_P (dC, dI) vwCl z H1) (Eq.trans (congrArg (fun z => (am_wl base cA h).set k z) ?_) (am_wl_set (h' := (h.1, am_up h.2.1 k i.toNatClampNeg (some j), h.2.2)) (k := k) rfl (fun q hq => am_cell_congr rfl (am_up_ne hq) rfl rfl)))) g1
    unfold am_cell
    dsimp only
    rw [h1]
    dsimp only
    rw [am_va_q h3]
    dsimp only
    simp only [am_up_eq]
    congr 8
    funext b
    unfold va_up
    by_cases hb : b = i.toNatClampNeg
    · simp [hb]
    · simp [hb]
  · cases hf
theorem go_gets (C : am_ctx E base xa dC dI cA M p R s m args meth cd) (P : am_hp base dC dI cA s h H locs) {x : Nat} (hc : am_chk M pc (.getstatic x :: c) = true) (kk : am_chk M (pc + 3) c = true → W p l e R s m args below meth cd H locs cells slots Q (F0 m (pc + 3) ls (.ref (xa x) :: S.map (am_mp base xa)))) : W p l e R s m args below meth cd H locs cells slots Q (F0 m pc ls (S.map (am_mp base xa))) := by
  obtain ⟨j, len, h1, h2, h3⟩ := am_chk_cons (fun t e => by cases e) hc
  simp only [am_ins, Bool.and_eq_true, decide_eq_true_eq, beq_iff_eq, List.any_eq_true] at h2
  obtain ⟨rfl, q, hq, ⟨hq1, rfl⟩, hq2⟩ := h2
  have hw0 := List.all_eq_true.mp am_G_ok q hq
  rw [Bool.and_eq_true, decide_eq_true_eq] at hw0
  have hw := C.2.2.2.2.1 _ (am_wd_in hw0.2)
  rw [hq1, hq2] at hw
  have hx : x < 2 := hq2 ▸ hw0.1
  exact va_gets C.1 C.2.1 (C.2.2.2.2.2.2.2.1.2.2.2.1 x hx) P.2.2 C.2.2.2.1 hw (fun _ h9 => h9) h1 (kk h3)
theorem go_fadd (C : am_ctx E base xa dC dI cA M p R s m args meth cd) {x y : Int32} (hl : ls.size = am_mL M) (hS : S.length ≤ 4) (h1c : cells ≤ R.cells) (h1s : slots ≤ R.slots) (hc : am_chk M pc (.fadd :: c) = true) (kk : am_chk M (pc + 3) c = true → W p l e R s m args below meth cd H locs cells slots Q (F0 m (pc + 3) ls (.int (if x < y then y else x) :: S.map (am_mp base xa)))) : W p l e R s m args below meth cd H locs cells slots Q (F0 m pc ls (.int y :: .int x :: S.map (am_mp base xa))) := by
  obtain ⟨j, len, h1, h2, h3⟩ := am_chk_cons (fun t e => by cases e) hc
  simp only [am_ins, Bool.and_eq_true, decide_eq_true_eq, beq_iff_eq, List.any_eq_true] at h2
  obtain ⟨⟨⟨rfl, q, hq, ⟨hq1, rfl⟩, hq2⟩, hfr⟩, hlc⟩ := h2
  have hw0 := List.all_eq_true.mp am_Mt_ok q hq
  rw [Bool.and_eq_true, decide_eq_true_eq] at hw0
  have hw := C.2.2.2.2.1 _ (am_wd_in hw0.2)
  rw [hq1, hq2] at hw
  have hi := am_mi_ok
  simp only [Bool.and_eq_true] at hi
  obtain ⟨⟨⟨⟨⟨⟨⟨⟨m0, m1⟩, m2⟩, m3⟩, m4⟩, m5⟩, m6⟩, m7⟩, m8⟩ := hi
  exact va_mmax C.1 C.2.1 (C.2.2.1.trans hl.symm) C.2.2.2.1 hw (C.2.2.2.2.1 _ (am_wd_in m1)) (C.2.2.2.2.1 _ (am_wd_in m0)) (C.2.2.2.2.1 _ (am_wd_in m2)) (Nat.le_trans hfr C.2.2.2.2.2.1) (Nat.le_trans (by have := am_catsum (base := base) (xa := xa) hS; omega) (Nat.le_trans hlc C.2.2.2.2.2.2.1)) h1c h1s h1 (kk h3)
theorem go_fsub (C : am_ctx E base xa dC dI cA M p R s m args meth cd) {x y : Int32} (hl : ls.size = am_mL M) (hS : S.length ≤ 4) (h1c : cells ≤ R.cells) (h1s : slots ≤ R.slots) (hc : am_chk M pc (.fsub :: c) = true) (kk : am_chk M (pc + 3) c = true → W p l e R s m args below meth cd H locs cells slots Q (F0 m (pc + 3) ls (.int (if y < x then y else x) :: S.map (am_mp base xa)))) : W p l e R s m args below meth cd H locs cells slots Q (F0 m pc ls (.int y :: .int x :: S.map (am_mp base xa))) := by
  obtain ⟨j, len, h1, h2, h3⟩ := am_chk_cons (fun t e => by cases e) hc
  simp only [am_ins, Bool.and_eq_true, decide_eq_true_eq, beq_iff_eq, List.any_eq_true] at h2
  obtain ⟨⟨⟨rfl, q, hq, ⟨hq1, rfl⟩, hq2⟩, hfr⟩, hlc⟩ := h2
  have hw0 := List.all_eq_true.mp am_Mt_ok q hq
  rw [Bool.and_eq_true, decide_eq_true_eq] at hw0
  have hw := C.2.2.2.2.1 _ (am_wd_in hw0.2)
  rw [hq1, hq2] at hw
  have hi := am_mi_ok
  simp only [Bool.and_eq_true] at hi
  obtain ⟨⟨⟨⟨⟨⟨⟨⟨m0, m1⟩, m2⟩, m3⟩, m4⟩, m5⟩, m6⟩, m7⟩, m8⟩ := hi
  exact va_mmin C.1 C.2.1 (C.2.2.1.trans hl.symm) C.2.2.2.1 hw (C.2.2.2.2.1 _ (am_wd_in m3)) (C.2.2.2.2.1 _ (am_wd_in m0)) (C.2.2.2.2.1 _ (am_wd_in m4)) (Nat.le_trans hfr C.2.2.2.2.2.1) (Nat.le_trans (by have := am_catsum (base := base) (xa := xa) hS; omega) (Nat.le_trans hlc C.2.2.2.2.2.2.1)) h1c h1s h1 (kk h3)
theorem go_fmul (C : am_ctx E base xa dC dI cA M p R s m args meth cd) {x : Int32} (hl : ls.size = am_mL M) (hS : S.length ≤ 4) (h1c : cells ≤ R.cells) (h1s : slots ≤ R.slots) (hc : am_chk M pc (.fmul :: c) = true) (kk : am_chk M (pc + 3) c = true → W p l e R s m args below meth cd H locs cells slots Q (F0 m (pc + 3) ls (.int (if 0 ≤ x then x else 0 - x) :: S.map (am_mp base xa)))) : W p l e R s m args below meth cd H locs cells slots Q (F0 m pc ls (.int x :: S.map (am_mp base xa))) := by
  obtain ⟨j, len, h1, h2, h3⟩ := am_chk_cons (fun t e => by cases e) hc
  simp only [am_ins, Bool.and_eq_true, decide_eq_true_eq, beq_iff_eq, List.any_eq_true] at h2
  obtain ⟨⟨⟨rfl, q, hq, ⟨hq1, rfl⟩, hq2⟩, hfr⟩, hlc⟩ := h2
  have hw0 := List.all_eq_true.mp am_Mt_ok q hq
  rw [Bool.and_eq_true, decide_eq_true_eq] at hw0
  have hw := C.2.2.2.2.1 _ (am_wd_in hw0.2)
  rw [hq1, hq2] at hw
  have hi := am_mi_ok
  simp only [Bool.and_eq_true] at hi
  obtain ⟨⟨⟨⟨⟨⟨⟨⟨m0, m1⟩, m2⟩, m3⟩, m4⟩, m5⟩, m6⟩, m7⟩, m8⟩ := hi
  exact va_mabs C.1 C.2.1 (C.2.2.1.trans hl.symm) C.2.2.2.1 hw (C.2.2.2.2.1 _ (am_wd_in m5)) (C.2.2.2.2.1 _ (am_wd_in m0)) (C.2.2.2.2.1 _ (am_wd_in m6)) (Nat.le_trans hfr C.2.2.2.2.2.1) (Nat.le_trans (by have := am_catsum (base := base) (xa := xa) hS; omega) (Nat.le_trans hlc C.2.2.2.2.2.2.1)) h1c h1s h1 (kk h3)
theorem go_fdiv (C : am_ctx E base xa dC dI cA M p R s m args meth cd) {x : Int64} (hl : ls.size = am_mL M) (hS : S.length ≤ 4) (h1c : cells ≤ R.cells) (h1s : slots ≤ R.slots) (hc : am_chk M pc (.fdiv :: c) = true) (kk : am_chk M (pc + 3) c = true → W p l e R s m args below meth cd H locs cells slots Q (F0 m (pc + 3) ls (.long (if 0 < x then x else -x) :: S.map (am_mp base xa)))) : W p l e R s m args below meth cd H locs cells slots Q (F0 m pc ls (.long x :: S.map (am_mp base xa))) := by
  obtain ⟨j, len, h1, h2, h3⟩ := am_chk_cons (fun t e => by cases e) hc
  simp only [am_ins, Bool.and_eq_true, decide_eq_true_eq, beq_iff_eq, List.any_eq_true] at h2
  obtain ⟨⟨⟨rfl, q, hq, ⟨hq1, rfl⟩, hq2⟩, hfr⟩, hlc⟩ := h2
  have hw0 := List.all_eq_true.mp am_Mt_ok q hq
  rw [Bool.and_eq_true, decide_eq_true_eq] at hw0
  have hw := C.2.2.2.2.1 _ (am_wd_in hw0.2)
  rw [hq1, hq2] at hw
  have hi := am_mi_ok
  simp only [Bool.and_eq_true] at hi
  obtain ⟨⟨⟨⟨⟨⟨⟨⟨m0, m1⟩, m2⟩, m3⟩, m4⟩, m5⟩, m6⟩, m7⟩, m8⟩ := hi
  exact va_mabs_long C.1 C.2.1 (C.2.2.1.trans hl.symm) C.2.2.2.1 hw (C.2.2.2.2.1 _ (am_wd_in m7)) (C.2.2.2.2.1 _ (am_wd_in m0)) (C.2.2.2.2.1 _ (am_wd_in m8)) (Nat.le_trans hfr C.2.2.2.2.2.1) (Nat.le_trans (by have := am_catsum (base := base) (xa := xa) hS; omega) (Nat.le_trans hlc C.2.2.2.2.2.2.1)) h1c h1s h1 (kk h3)
theorem go_objinit (C : am_ctx E base xa dC dI cA M p R s m args meth cd) {k : Nat} (hl : ls.size = am_mL M) (hS : S.length ≤ 4) (hc : am_chk M pc (.pop2 :: c) = true) (kk : am_chk M (pc + 3) c = true → W p l e R s m args below meth cd H locs cells slots Q (F0 m (pc + 3) ls (S.map (am_mp base xa)))) : W p l e R s m args below meth cd H locs cells slots Q (F0 m pc ls (.ref (base + k) :: S.map (am_mp base xa))) := by
  obtain ⟨j, len, h1, h2, h3⟩ := am_chk_cons (fun t e => by cases e) hc
  simp only [am_ins, Bool.and_eq_true, decide_eq_true_eq, beq_iff_eq, List.any_eq_true] at h2
  obtain ⟨⟨⟨rfl, q, hq, hq1, rfl⟩, hfr⟩, hlc⟩ := h2
  have hw := C.2.2.2.2.1 _ (am_wd_in (List.all_eq_true.mp am_O_ok q hq))
  rw [hq1] at hw
  have hi := am_oi_ok
  rw [Bool.and_eq_true] at hi
  refine W.objInit C.1 C.2.1 C.2.2.2.1 hw (C.2.2.2.2.1 _ (am_wd_in hi.1)) (C.2.2.2.2.1 _ (am_wd_in hi.2)) rfl (hl.trans C.2.2.1.symm) rfl h1 (Nat.le_trans hfr C.2.2.2.2.2.1) (Nat.le_trans ?_ (Nat.le_trans hlc C.2.2.2.2.2.2.1)) (kk h3)
  have := am_catsum (base := base) (xa := xa) hS
  show 2 * 0 + _ + 12 ≤ 24
  omega
theorem am_lay_hp {q : Nat ⊕ (Nat × Nat)} {H1 : Heap} (P : am_hp base dC dI cA s h H locs) (z : H1.size = H.size + 1) (o : ∀ x, x < H.size → H1[x]? = H[x]?) (hb : base ≤ s.heap.size) (hat : va_at (dC, dI) vwCl (base + h.1.length, am_cell base cA (am_lay h q) h.1.length) H1) : am_hp base dC dI cA s (am_lay h q) H1 locs := by
  refine ⟨?_, ?_, ?_⟩
  · rw [am_wl_push]
    refine va_P.app (P.1.kept (fun k x hx => o x.1 ((P.1 k x hx).lt))) (fun k x hx => ?_)
    have hz : k < 1 := (List.getElem?_eq_some_iff.mp hx).1
    rw [show k = 0 by omega] at hx
    cases hx
    exact hat
  · rw [z, P.2.1]
    simp [am_lay]
    omega
  · exact ⟨Nat.le_trans P.2.2.1 (by omega), fun x h1 h2 => (o x (Nat.lt_of_lt_of_le h1 P.2.2.1)).trans (P.2.2.2.1 x h1 h2), P.2.2.2.2⟩
theorem am_sz_lay (h : aH) (q : Nat ⊕ (Nat × Nat)) : am_sz (am_lay h q) = am_sz h + (match q with
  | .inl c => am_N c
  | .inr (_, n) => n) := by rcases q with c | ⟨t, n⟩ <;> simp [am_sz, am_lay]
theorem am_lay_at (h : aH) (q : Nat ⊕ (Nat × Nat)) : (am_lay h q).1[h.1.length]? = some q := by simp [am_lay]
theorem go_new (C : am_ctx E base xa dC dI cA M p R s m args meth cd) (P : am_hp base dC dI cA s h H locs) {x : Nat} (h1c : cells + 1 ≤ R.cells) (h1s : slots + am_N x ≤ R.slots) (hc : am_chk M pc (.new x :: c) = true) (kk : ∀ H' locs', am_chk M (pc + 3) c = true → am_hp base dC dI cA s (am_lay h (.inl x)) H' locs' → W p l e R s m args below meth cd H' locs' (cells + 1) (slots + am_N x) Q (F0 m (pc + 3) ls (.ref (base + h.1.length) :: S.map (am_mp base xa)))) : W p l e R s m args below meth cd H locs cells slots Q (F0 m pc ls (S.map (am_mp base xa))) := by
  obtain ⟨j, len, h1, h2, h3⟩ := am_chk_cons (fun t e => by cases e) hc
  simp only [am_ins, Bool.and_eq_true, decide_eq_true_eq, beq_iff_eq, List.any_eq_true] at h2
  obtain ⟨rfl, q, hq, ⟨hq1, rfl⟩, hq2⟩ := h2
  have hw0 := List.all_eq_true.mp am_Nw_ok q hq
  simp only [Bool.and_eq_true, decide_eq_true_eq] at hw0
  obtain ⟨⟨⟨hx, w1⟩, w2⟩, w3⟩ := hw0
  rw [hq1, hq2] at w1
  rw [hq2] at w2 w3 hx
  have hKn := C.2.2.2.2.2.2.2.1.1.1 x _ (am_vwCl hx)
  refine W.newcK C.1 C.2.1 C.2.2.2.1 (C.2.2.2.2.1 _ (am_wd_in w1)) (C.2.2.2.2.1 _ (am_wd_in w2)) (C.2.2.2.2.1 _ (am_wd_in w3)) rfl h1 h1c h1s hKn.2.1 P.2.1 (fun H1 kC hkC e1 z1 o1 => ?_)
  refine kk H1 locs h3 (am_lay_hp P (by rw [z1, P.2.1]) (fun q hq => o1 q (by rw [← P.2.1]; exact hq)) C.2.2.2.2.2.2.2.1.2.2.2.2.2 ?_)
  unfold am_cell
  rw [am_lay_at]
  refine ⟨_, am_vwCl hx, (u_born (am_ty x) C.2.2.2.2.1 (am_wx_ok x hx) hKn hkC e1 (am_ty_ok x hx)).to (fun j hj => ?_)⟩
  have e2 : am_fv (am_lay h (.inl x)) x h.1.length j = defaultValue (am_ty x j) := by
    have hk := am_tk_ok x hx j hj
    unfold am_fv am_lay am_blk
    cases ht : am_ty x j <;> rw [ht] at hk <;> simp [am_tyk] at hk <;> simp [defaultValue, va_rf]
  show _ = (am_fsv base (am_lay h (.inl x)) x h.1.length).getD j .null
  unfold am_fsv
  rw [List.getD_eq_getElem?_getD, List.getElem?_map, List.getElem?_range hj]
  show _ = am_mp base id (am_fv (am_lay h (.inl x)) x h.1.length j)
  rw [e2]
  have hk := am_tk_ok x hx j hj
  cases ht : am_ty x j <;> rw [ht] at hk <;> simp [am_tyk] at hk <;> rfl
theorem go_newarray (C : am_ctx E base xa dC dI cA M p R s m args meth cd) (P : am_hp base dC dI cA s h H locs) {t : ArrayType} {n : Int32} (hn : ¬ n < 0) (hn2 : n.toNatClampNeg ≤ 1000) (h1c : cells + 1 ≤ R.cells) (h1s : slots + n.toNatClampNeg ≤ R.slots) (hc : am_chk M pc (.newarray t :: c) = true) (kk : ∀ H' locs', am_chk M (pc + 2) c = true → am_hp base dC dI cA s (am_lay h (.inr (am_atN t, n.toNatClampNeg))) H' locs' → W p l e R s m args below meth cd H' locs' (cells + 1) (slots + n.toNatClampNeg) Q (F0 m (pc + 2) ls (.ref (base + h.1.length) :: S.map (am_mp base xa)))) : W p l e R s m args below meth cd H locs cells slots Q (F0 m pc ls (.int n :: S.map (am_mp base xa))) := by
  obtain ⟨j, len, h1, h2, h3⟩ := am_chk_cons (fun t e => by cases e) hc
  simp only [am_ins, Bool.and_eq_true, decide_eq_true_eq, beq_iff_eq] at h2
  obtain ⟨⟨rfl, rfl⟩, ht⟩ := h2
  have hty : newarray.typeOf t = am_et (am_atN t) := by cases t <;> first | rfl | (simp [am_atN] at ht)
  have harr : Jvm.Cond.arrayClass (newarray.typeOf t) ∈ lw_good := by
    have ho := am_ac_ok
    simp only [Bool.and_eq_true] at ho
    cases t <;> first | exact am_wd_in ho.1.1 | exact am_wd_in ho.1.2 | exact am_wd_in ho.2 | (simp [am_atN] at ht)
  have hby : n.toNatClampNeg * componentBytes (newarray.typeOf t) ≤ 536870912 := by
    have : componentBytes (newarray.typeOf t) ≤ 8 := by cases t <;> simp [newarray.typeOf, componentBytes]
    calc n.toNatClampNeg * componentBytes (newarray.typeOf t) ≤ 1000 * 8 := Nat.mul_le_mul hn2 this
      _ ≤ 536870912 := by decide
  refine va_newaK C.1 C.2.1 (C.2.2.2.2.1 _ harr) rfl h1 rfl hn rfl hby h1c h1s P.2.1 (fun H1 cA' e1 z1 o1 hAr hNm => ?_)
  refine kk H1 locs h3 (am_lay_hp P (by rw [z1, P.2.1]) (fun q hq => o1 q (by rw [← P.2.1]; exact hq)) C.2.2.2.2.2.2.2.1.2.2.2.2.2 ?_)
  have hRA := (C.2.2.2.2.2.2.2.1.1.2 (am_atN t) _ (am_tys_get (by omega))).2
  have hcA : cA' = cA (am_atN t) := by
    rw [hty] at hNm
    cases t <;> first | exact Option.some.inj (hNm.symm.trans hRA) | (simp [am_atN] at ht)
  unfold am_cell
  rw [am_lay_at]
  show H1[base + h.1.length]? = some (vp_cell _ _)
  rw [e1, hcA, hty]
  cases t <;> first | (simp [am_atN] at ht; done) | (simp [am_atN, am_va, am_lay, am_blk, am_et, defaultValue, vp_cell])
theorem go_anewarray (C : am_ctx E base xa dC dI cA M p R s m args meth cd) (P : am_hp base dC dI cA s h H locs) {t : Nat} {n : Int32} (hn : ¬ n < 0) (hn2 : n.toNatClampNeg ≤ 1000) (h1c : cells + 1 ≤ R.cells) (h1s : slots + n.toNatClampNeg ≤ R.slots) (hc : am_chk M pc (.anewarray t :: c) = true) (kk : ∀ H' locs', am_chk M (pc + 3) c = true → am_hp base dC dI cA s (am_lay h (.inr (t, n.toNatClampNeg))) H' locs' → W p l e R s m args below meth cd H' locs' (cells + 1) (slots + n.toNatClampNeg) Q (F0 m (pc + 3) ls (.ref (base + h.1.length) :: S.map (am_mp base xa)))) : W p l e R s m args below meth cd H locs cells slots Q (F0 m pc ls (.int n :: S.map (am_mp base xa))) := by
  obtain ⟨j, len, h1, h2, h3⟩ := am_chk_cons (fun t e => by cases e) hc
  simp only [am_ins, Bool.and_eq_true, decide_eq_true_eq, beq_iff_eq, List.any_eq_true] at h2
  obtain ⟨rfl, q, hq, ⟨hq1, rfl⟩, hq2⟩ := h2
  have hw0 := List.all_eq_true.mp am_A_ok q hq
  simp only [Bool.and_eq_true, decide_eq_true_eq] at hw0
  obtain ⟨⟨ht3, ht7⟩, w1⟩ := hw0
  rw [hq1, hq2] at w1
  rw [hq2] at ht3 ht7
  have hAOm : (am_AO[t - 3]?).getD "" ∈ am_AO := by
    have : t - 3 < am_AO.length := by show t - 3 < 4; omega
    rw [List.getElem?_eq_getElem this]
    exact List.getElem_mem this
  refine W.anew C.1 C.2.1 C.2.2.2.1 (C.2.2.2.2.1 _ (am_wd_in w1)) (va_AO.use (C.2.2.2.2.2.2.2.1.2.2.1 _ hAOm)) rfl h1 rfl hn (by omega) h1c h1s (fun cA' kA comp f1 f2 f3 f4 => ?_)
  generalize hH1 : H.push ({ cls := cA', slots := Array.replicate n.toNatClampNeg .null, vm := .none } : Cell) = H1
  have z1 : H1.size = H.size + 1 := by rw [← hH1, Array.size_push]
  have e1 : H1[H.size]? = some (arrV cA' n.toNatClampNeg (fun _ => .null)) := by rw [← hH1, Array.getElem?_push_size, ← arrV_new]
  have o1 : ∀ q : Nat, q < H.size → H1[q]? = H[q]? := fun q hq => by rw [← hH1, Array.getElem?_push, if_neg (Nat.ne_of_lt hq)]
  have hRA := (C.2.2.2.2.2.2.2.1.1.2 t _ (am_tys_get ht7)).2
  rw [am_et_q ht3] at hRA
  obtain ⟨_, _, _, _, _, hRA⟩ := hRA
  have hcA : cA' = cA t := Option.some.inj (f1.symm.trans hRA)
  have kk := kk H1 locs h3 (am_lay_hp P z1 o1 C.2.2.2.2.2.2.2.1.2.2.2.2.2 (by
    unfold am_cell
    rw [am_lay_at]
    show H1[base + h.1.length]? = some (vp_cell _ _)
    rw [← P.2.1, e1, hcA, am_va_q ht3]
    simp [am_lay, am_blk, vp_cell, va_rf]))
  rw [← P.2.1] at kk
  exact kk
end SndH
