/-! THE CLAIM OUT OF ONE WALK OF THE LAW'S BODY. Your part is whole_start (and what it stands on); all else here is the same for every law, but numbers. -/
def R_law : String := "RailPowerLaw"
def lw_P (b : Addr) (xs : List Int32) (args : Array Value) (s : State) : Prop := args = #[.ref b] ∧ s.IntsAt b xs ∧ xs.length ≤ 3072 ∧ (Jvm.Cond.and given_1 narrow_1).before args s = true
def lw_Q (_ : Array Value) (s : State) (o : Outcome) (t : State) : Prop := o = .returned (some (.int 1)) ∧ Framed s o t [] 600000 7302249
def lw_Z (below : List Frame) (a : Array Value) (s : State) : State → Prop := fun t => ∃ o, t.status = .running ∧ Ended t below o ∧ lw_Q a s o t
/-- the law's own end, with 1 on the stack, nothing written that was there before, its room as the claim has it -/
theorem lw_ret {p : Program} {l : Launch} {e : Env} {s : State} {m : MethodId} {below : List Frame} {meth : Method} {c : Code} {b : Nat} (hx : p.tables.exec = Jvm.exec) (hb : c.code = code) (hr : meth.sig.returnType = ret) (hlocks : meth.locks = false) {pc : Nat} {H : Heap} {ls : Array Slot} (hdg : decode code pc = .ok (.ireturn, 1)) : W p l e room_1 s m #[Value.ref b] below meth c H [] 600000 7302249 (lw_Z below #[Value.ref b] s) (F0 m pc ls [.int 1]) := by
  intro T hT X
  obtain ⟨fs, hret, hrun, hended, hW, hframe⟩ := X.leave (v := some (.int 1)) (hlocks := hlocks) (fun h => by rw [hr] at h; cases h)
  have hmeth' : T.vm.method? m = some meth := X.method'
  refine ⟨T.setFrames fs, ?_, .returned (some (.int 1)), hrun, hended, rfl, ⟨_, rfl⟩, hW, hframe⟩
  jvm_step X.here [X.here.top, hx, hb, hdg, hmeth', hr, ret, narrow_b1]
  (try refine ⟨rfl, ?_⟩); (try refine ⟨rfl, ?_⟩)
  first | (intro acts; rw [hret _ acts rfl rfl rfl]) | rw [hret _ _ rfl rfl rfl]
  exact Steps.refl _
/-- what holds at the law's entry: the machine, the code, the tables' words (any of lw_tbl by 'hts w (by decide +kernel)'), the script of L ints xs at the cell b, what the Statement gives of the start (any of its parts by flat_of_before) -/
def lw_At (p : Program) (s : State) (m : MethodId) (meth : Method) (c : Code) (b L : Nat) (xs : Nat → Int32) : Prop :=
  p.tables.exec = Jvm.exec ∧ c.code = code ∧ meth.sig.returnType = ret ∧ c.maxLocals = 4 ∧ s.vm.findClass R_law = some m.cls ∧ (∀ w ∈ lw_tbl, w.before #[Value.ref b] s = true) ∧ va_X b L xs s s.heap ∧ b < s.heap.size ∧ meth.locks = false ∧ (Jvm.Cond.and given_1 narrow_1).before #[Value.ref b] s = true
/-! THE LAW'S START OUT OF A RUN OF THE ABSTRACT MACHINE -/
def am_h0 : aH := ([], fun _ _ => none, fun _ _ => 0, fun _ _ => 0)
def am_lst (l : List Int32) : Nat → Int32 := fun j => l.getD j 0
def am_E (L : Nat) (xs : Nat → Int32) : aE := fun x => match x with
  | 0 => (5, am_lst [1, 1, 100, 100, 1])
  | 1 => (5, am_lst [200, 20, 2000, 3000, 2000])
  | _ => (L, xs)
theorem am_static {args : Array Value} {s : State} {n : String} {zs : List Int32} (hz : zs.length = 5) (hl : (Jvm.Cond.laysStatic "RailPower" n "[I").before args s = true) (hini : (Jvm.Cond.initialized "RailPower").before args s = true) (harr : (Jvm.Cond.arrayOf (.static "RailPower" n "[I") .int).before args s = true) (hlen : (Jvm.Cond.eq (.length (.static "RailPower" n "[I")) (.int 5)).before args s = true) (hel : ∀ j : Nat, j < 5 → (Jvm.Cond.eq (.elem (.static "RailPower" n "[I") (.int (Int32.ofNat j))) (.int (am_lst zs j))).before args s = true) : ∃ t : Nat, va_Z "RailPower" n "[I" (.ref t) (fun q => s.heap.size ≤ q) s s.heap ∧ va_T .int t 5 (fun j => .int (am_lst zs j)) (fun q => s.heap.size ≤ q) s s.heap := by
  have hA : ∀ a : Nat, a < s.heap.size → ¬ (fun q => s.heap.size ≤ q) a := fun a h => Nat.not_le.mpr h
  obtain ⟨t, h1, h2⟩ := va_Tof (N := 5) (f := fun j => .int (am_lst zs j)) (A := fun q => s.heap.size ≤ q) (by decide) harr (va_eqt hlen) (fun j hj => va_eqt (hel j hj)) hA
  exact ⟨t, va_Zof hl hini h1 hA, h2⟩
set_option maxRecDepth 20000 in
theorem am_w0 : Jvm.Cond.laysStatic "RailPower" "LEAST_RULE" "[I" ∈ lw_tbl ∧ Jvm.Cond.laysStatic "RailPower" "GREATEST_RULE" "[I" ∈ lw_tbl ∧ Jvm.Cond.initialized "RailPower" ∈ lw_tbl := by decide +kernel
set_option maxRecDepth 20000 in
theorem am_w1 : ∀ c, c < 10 → Jvm.Cond.instantiable (am_cls c) (am_N c) ∈ lw_good := by decide +kernel
set_option maxRecDepth 20000 in
theorem am_w2 : ∀ C ∈ am_AO, Jvm.Cond.arrayOver (.object C) ∈ lw_tbl := by decide +kernel
theorem am_lawk : am_own 186 = 10 ∧ am_cls 10 = R_law ∧ am_mL 186 = 4 ∧ am_fr 186 ≤ 10 ∧ am_lc 186 ≤ 400 ∧ am_rt 186 = some .boolean := by decide +kernel
theorem am_law_cc : am_cc 186 = code := rfl
theorem am_law_name : (am_y 186).name = "law" := rfl
theorem am_cA_ex {s : State} {args : Array Value} (hts : ∀ w ∈ lw_tbl, w.before args s = true) : ∃ cA : Nat → ClassId, ∀ t, t < 7 → ArrOfT s (cA t) (am_et t) ∧ va_RA s (cA t) (am_et t) := by
  have h : ∀ t, ∃ c : ClassId, t < 7 → ArrOfT s c (am_et t) ∧ va_RA s c (am_et t) := by
    intro t
    by_cases ht : t < 7
    · by_cases h3 : t < 3
      · have hac := am_ac_ok
        simp only [Bool.and_eq_true] at hac
        have hw : (Jvm.Cond.arrayClass (am_et t)).before args s = true := by
          rcases (show t = 0 ∨ t = 1 ∨ t = 2 by omega) with rfl | rfl | rfl
          · exact hts _ (List.mem_filter.mp (am_wd_in hac.1.1)).1
          · exact hts _ (List.mem_filter.mp (am_wd_in hac.1.2)).1
          · exact hts _ (List.mem_filter.mp (am_wd_in hac.2)).1
        obtain ⟨c, k, comp, g1, g2, g3⟩ := Cond.arrayClass_spec hw
        refine ⟨c, fun _ => ⟨fun n z => ⟨fun k h => (by cases h), k, g2, comp, g3⟩, ?_⟩⟩
        rcases (show t = 0 ∨ t = 1 ∨ t = 2 by omega) with rfl | rfl | rfl <;> exact g1
      · have hm : (am_AO[t - 3]?).getD "" ∈ am_AO := by
          have : t - 3 < am_AO.length := by show t - 3 < 4; omega
          rw [List.getElem?_eq_getElem this]
          exact List.getElem_mem this
        obtain ⟨comp, c, k, g1, g2, g3, g4, g5⟩ := Cond.arrayOver_spec (hts _ (am_w2 _ hm))
        rw [am_et_q (by omega)]
        exact ⟨c, fun _ => ⟨fun n z => ⟨fun k h => (by cases h), k, g3, comp, g4⟩, k, comp, g3, g4, g1, g5⟩⟩
    · exact ⟨0, fun q => absurd q ht⟩
  exact ⟨fun t => Classical.choose (h t), fun t ht => Classical.choose_spec (h t) ht⟩
theorem am_whole_start {p : Program} {e : Env} {s : State} {m : MethodId} {below : List Frame} {meth : Method} {c : Code} (l : Launch) {b L : Nat} {xs : Nat → Int32} (C0 : lw_At p s m meth c b L xs) {n : Nat} {h' : aH} (hrun : am_run (am_E L xs) n 186 (am_B 186 0) (am_ent 186 [.retAddr 2]) [] am_h0 = some (some (.int 1), h')) (hc : h'.1.length ≤ 600000) (hs : am_sz h' ≤ 7302249) : W p l e room_1 s m #[Value.ref b] below meth c s.heap [] 0 0 (lw_Z below #[Value.ref b] s) (entryFrame m ([Value.ref b] : List Value).toArray 4) := by
  obtain ⟨hx, hb, hr, hml, hown, hts, hX, hbl, hlocks, hgv⟩ := id C0
  have hf := flat_of_before _ hgv
  obtain ⟨t0, hZ0, hT0⟩ := am_static (n := "LEAST_RULE") (zs := [1, 1, 100, 100, 1]) rfl (hts _ am_w0.1) (hts _ am_w0.2.2) (hf _ (by decide +kernel)) (hf _ (by decide +kernel)) (fun j hj => by
    rcases (show j = 0 ∨ j = 1 ∨ j = 2 ∨ j = 3 ∨ j = 4 by omega) with rfl | rfl | rfl | rfl | rfl <;> exact hf _ (by decide +kernel))
  obtain ⟨t1, hZ1, hT1⟩ := am_static (n := "GREATEST_RULE") (zs := [200, 20, 2000, 3000, 2000]) rfl (hts _ am_w0.2.1) (hts _ am_w0.2.2) (hf _ (by decide +kernel)) (hf _ (by decide +kernel)) (fun j hj => by
    rcases (show j = 0 ∨ j = 1 ∨ j = 2 ∨ j = 3 ∨ j = 4 by omega) with rfl | rfl | rfl | rfl | rfl <;> exact hf _ (by decide +kernel))
  obtain ⟨cA, hcA⟩ := am_cA_ex hts
  have hgood : ∀ w ∈ lw_good, w.before #[Value.ref b] s = true := fun w hw => hts w (List.mem_filter.mp hw).1
  have hkn : ∀ k, ∃ q : ClassId × (Nat → Nat), k < 10 → u_Kn s (am_cls k) (am_Tx k) (am_N k) q.1 q.2 := by
    intro k
    by_cases hk : k < 10
    · obtain ⟨a, b, h⟩ := u_known (C := am_cls k) (T := am_Tx k) (N := am_N k) (n := am_N k) hgood (am_wx_ok k hk) (hgood _ (am_w1 k hk))
      exact ⟨(a, b), fun _ => h⟩
    · exact ⟨(0, fun _ => 0), fun h => absurd h hk⟩
  have hK : va_K (fun k => (Classical.choose (hkn k)).1, fun k => (Classical.choose (hkn k)).2) vwCl (am_tys cA) s := by
    refine ⟨fun k q hq => ?_, fun k q hq => ?_⟩
    · have hk : k < 10 := (List.getElem?_eq_some_iff.mp hq).1
      rw [am_vwCl hk] at hq
      cases hq
      exact Classical.choose_spec (hkn k) hk
    · have hk : k < 7 := by
        have := (List.getElem?_eq_some_iff.mp hq).1
        simpa [am_tys] using this
      rw [am_tys_get hk] at hq
      cases hq
      exact hcA k hk
  generalize (fun k => (Classical.choose (hkn k)).1) = dC at hK
  generalize (fun k => (Classical.choose (hkn k)).2) = dI at hK
  have henv : am_env (am_E L xs) s.heap.size (fun x => match x with | 0 => t0 | 1 => t1 | _ => b) dC dI cA s := by
    refine ⟨hK, fun w hw hn => ?_, fun C hC => va_AO.of (hts _ (am_w2 C hC)), fun x hx => ?_, ⟨fun x hx => ?_, hX, hbl⟩, Nat.le_refl _⟩
    · obtain ⟨a, i, y, h, rfl⟩ := am_nestK hn
      exact va_Nw.of rfl (hts _ hw)
    · rcases (show x = 0 ∨ x = 1 by omega) with rfl | rfl
      · exact hZ0
      · exact hZ1
    · rcases (show x = 0 ∨ x = 1 by omega) with rfl | rfl
      · exact hT0
      · exact hT1
  obtain ⟨k1, k2, k3, k4, k5, k6⟩ := am_lawk
  have hctx : am_ctx (am_E L xs) s.heap.size (fun x => match x with | 0 => t0 | 1 => t1 | _ => b) dC dI cA 186 p room_1 s m #[Value.ref b] meth c := ⟨hx, hb.trans am_law_cc.symm, hml.trans k3.symm, by rw [k1, k2]; exact hown, hgood, k4, k5, henv, fun q => absurd q (by rw [am_law_name]; decide)⟩
  have hsnd := am_sound (am_E L xs) s.heap.size (fun x => match x with | 0 => t0 | 1 => t1 | _ => b) dC dI cA l n 186 (am_B 186 0) (am_ent 186 [.retAddr 2]) [] am_h0 (some (.int 1), h') hrun
  have hlr : am_lrel s.heap.size (fun x => match x with | 0 => t0 | 1 => t1 | _ => b) (am_ent 186 [.retAddr 2]) ((lg_sl [Value.ref b] ++ List.replicate (4 - (lg_sl [Value.ref b]).length) Slot.unset).toArray) 4 := am_lrel_entry (M := 186) (as := [.retAddr 2]) (by decide)
  rw [lg_entry_eq]
  refine hsnd p e room_1 s m #[Value.ref b] below meth c s.heap _ [] 0 0 _ _ 0 _ hctx (am_chkB 186 0) hlr ⟨fun k q hq => by simp [am_wl, am_h0] at hq, by simp [am_h0], va_S.rf⟩ rfl rfl (by show 0 + (h'.1.length - 0) ≤ 600000; omega) (by show 0 + (am_sz h' - am_sz am_h0) ≤ 7302249; omega) (fun H' locs' ls' pc' hp hret => ?_)
  refine va_forget (fun q hq => hp.2.2.2.2 q hq) ?_
  refine W.widen (k := 600000) (n := 7302249) (by show 0 + (h'.1.length - 0) ≤ 600000; omega) (by show 0 + (am_sz h' - am_sz am_h0) ≤ 7302249; omega) ?_
  exact lw_ret hx hb hr hlocks (am_law_cc ▸ hret.1)
