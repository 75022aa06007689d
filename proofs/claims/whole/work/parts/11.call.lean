/-! CALLS, AND THE WHOLE RUN -/
theorem am_good {w : Jvm.Cond} (h : w ∈ lw_good) : (w.onTables && w.keeps) = true ∨ ∃ ty, w = .arrayClass ty := good_of_word (List.mem_filter.mp h).2
theorem am_GoodIn {ws : List Jvm.Cond} (h : ∀ w ∈ ws, w ∈ lw_good) : GoodIn lw_good ws := fun w hw => ⟨h w hw, am_good (h w hw)⟩
def am_ws (k : Nat) : List Jvm.Cond := .code (am_y k) (am_cc k) (am_mL k) (am_rt k) :: lw_good
theorem am_ws_in {k : Nat} (hk : k < 186) : ∀ w ∈ am_ws k, w ∈ lw_good := fun w hw => by
  rcases List.mem_cons.mp hw with rfl | hw
  · exact am_cd_ok k hk
  · exact hw
theorem am_C_ok : am_C.all am_cw = true := by
  rw [← List.take_append_drop 60 am_C, List.all_append, am_C_ok1]
  rw [← List.take_append_drop 60 (am_C.drop 60), List.all_append, am_C_ok2, List.drop_drop, am_C_ok3]
  rfl
section SndE
variable {E : aE} {base : Nat} {xa : Nat → Nat} {dC : Nat → ClassId} {dI : Nat → Nat → Nat} {cA : Nat → ClassId}
theorem am_nestK {w : Jvm.Cond} (hw : am_nest w = true) : ∃ a i x h, w = .methodLinkNest a i x h := by
  cases w <;> first | exact ⟨_, _, _, _, rfl⟩ | (simp [am_nest] at hw)
theorem am_env_to {s U : State} {H : Heap} {locs : List Loc} (he : am_env E base xa dC dI cA s) (hS : va_S (fun q => base ≤ q) s.heap H locs) (hU : U.heap = H) (hW : s.WarmedH U.vm) : am_env E base xa dC dI cA U := by
  obtain ⟨h1, h2, h3, h4, h5, h6⟩ := he
  refine ⟨va_K.moved hW.alike h1, fun w hw hn => ?_, fun C hC => va_AO.moved hW.alike (h3 C hC), fun x hx => ?_, ⟨fun x hx => ?_, ?_⟩, ?_⟩
  · obtain ⟨a, i, x, h, rfl⟩ := am_nestK hn
    exact va_Nw.warmM hW (h2 _ hw hn)
  · obtain ⟨cf, kf, fi, f, a, cell, g1, g2, g3, g4, g5, g6, g7, g8⟩ := va_Z.moved hW.alike (h4 x hx)
    exact ⟨cf, kf, fi, f, a, cell, g1, g2, g3, g4, by rw [hU, hS.2.1 a (Array.getElem?_eq_some_iff.mp g5).1 g8]; exact g5, g6, g7, g8⟩
  · have := va_T.moved hW.alike (h5.1 x hx)
    rw [hU]
    exact this.kept (fun a h1 h2 => hS.2.1 a h1 h2)
  · obtain ⟨-, hX, hb⟩ := h5
    obtain ⟨scr, g1, g2, g3, g4, g5⟩ := va_X.moved hW.alike hX
    exact ⟨⟨scr, by rw [hU, hS.2.1 _ (Nat.lt_of_lt_of_le hb h6) (Nat.not_le.mpr hb)]; exact g1, g2, g3, g4, g5⟩, hb⟩
  · rw [hU]; exact Nat.le_trans h6 hS.1
theorem am_env_call {U : State} {g : JFrame} {mk : MethodId} {a : Array Value} (he : am_env E base xa dC dI cA U) : am_env E base xa dC dI cA (U.calling g mk a) := by
  obtain ⟨h1, h2, h3, h4, h5, h6⟩ := he
  refine ⟨va_K.moved (u := U) (U := U.calling g mk a) (Vm.Alike.refl U.vm) h1, fun w hw hn => ?_, fun C hC => va_AO.moved (u := U) (U := U.calling g mk a) (Vm.Alike.refl U.vm) (h3 C hC), fun x hx => va_Z.moved (u := U) (U := U.calling g mk a) (Vm.Alike.refl U.vm) (h4 x hx), ⟨fun x hx => va_T.moved (u := U) (U := U.calling g mk a) (Vm.Alike.refl U.vm) (h5.1 x hx), va_X.moved (u := U) (U := U.calling g mk a) (Vm.Alike.refl U.vm) h5.2.1, h5.2.2⟩, h6⟩
  obtain ⟨a, i, x, h, rfl⟩ := am_nestK hn
  exact va_Nw.same rfl rfl (h2 _ hw hn)
end SndE
/-- a method's start and end -/
def am_Pc (E : aE) (base : Nat) (xa : Nat → Nat) (dC : Nat → ClassId) (dI : Nat → Nat → Nat) (cA : Nat → ClassId) (as : List Value) (h : aH) : Array Value → State → Prop := fun v U => v = (as.map (am_mp base xa)).toArray ∧ am_env E base xa dC dI cA U ∧ va_P (dC, dI) vwCl (am_wl base cA h) U.heap ∧ U.heap.size = base + h.1.length
def am_Qc (base : Nat) (xa : Nat → Nat) (dC : Nat → ClassId) (dI : Nat → Nat → Nat) (cA : Nat → ClassId) (r : Option Value) (h : aH) : Array Value → State → Outcome → State → Prop := fun _ st o t => o = .returned (r.map (am_mp base xa)) ∧ va_P (dC, dI) vwCl (am_wl base cA h) t.heap ∧ t.heap.size = base + h.1.length ∧ va_F (fun q => base ≤ q) st t
section SndC
variable {E : aE} {base : Nat} {xa : Nat → Nat} {dC : Nat → ClassId} {dI : Nat → Nat → Nat} {cA : Nat → ClassId}
variable {p : Program} {l : Launch} {e : Env} {R : Room} {s : State} {m : MethodId} {args : Array Value} {below : List Frame} {meth : Method} {cd : Code} {H : Heap} {locs : List Loc} {cells slots : Nat} {Q : State → Prop}
variable {M pc : Nat} {ls : Array Slot} {c : List Instr} {L S : List Value} {h h2 : aH}
theorem am_callW {mc ms : Nat} {st0 rest : List Value} {r : Option Value} {a : Array Value} (hr : va_Run p l e R s m args below meth cd H locs cells slots mc ms (F0 m pc ls st0) rest (am_Qc base xa dC dI cA r h2 a) (fun q => base ≤ q)) (hS : va_S (fun q => base ≤ q) s.heap H locs)
    (kk : ∀ (H1 : Heap) (locs1 : List Loc), am_hp base dC dI cA s h2 H1 locs1 → W p l e R s m args below meth cd H1 locs1 (cells + mc) (slots + ms) Q (F0 m (pc + 3) ls ((r.map (am_mp base xa)).toList ++ rest))) : W p l e R s m args below meth cd H locs cells slots Q (F0 m pc ls st0) := by
  intro T hT X
  obtain ⟨v, st₀, t, T', L, h0, X', hL, e1, e2, ⟨hv, hp, hsz, hz, hk⟩, st⟩ := hr T hT X
  have hv : v = r.map (am_mp base xa) := by cases hv; rfl
  subst hv
  rw [h0] at hz hk
  obtain ⟨t2, a1, b1⟩ := kk T'.heap (locs ++ L) ⟨by rw [e1]; exact hp, by rw [e1]; exact hsz, Nat.le_trans hS.1 (by rw [e1]; exact hz), fun q h1 h2 => by rw [e1, hk q (Nat.lt_of_lt_of_le h1 hS.1) h2]; exact hS.2.1 q h1 h2, fun q hq => by
      rcases List.mem_append.mp hq with h | h
      · exact hS.2.2 q h
      · exact hL q h⟩ T' rfl X'
  exact ⟨t2, st t2 a1, b1⟩
theorem am_Pc_pre (C : am_ctx E base xa dC dI cA M p R s m args meth cd) (P : am_hp base dC dI cA s h H locs) (as : List Value) : FrameBlind (am_Pc E base xa dC dI cA as h) ∧ ∀ U : State, U.heap = H → s.WarmedH U.vm → am_Pc E base xa dC dI cA as h (as.map (am_mp base xa)).toArray U := by
  refine ⟨fun a U g mk q => ⟨q.1, am_env_call q.2.1, q.2.2.1, q.2.2.2⟩, fun U hU hW => ⟨rfl, am_env_to C.2.2.2.2.2.2.2.1 P.2.2 hU hW, by rw [hU]; exact P.1, by rw [hU]; exact P.2.1⟩⟩
theorem am_call {k mc ms : Nat} {v : Option Value} {as : List Value} (C : am_ctx E base xa dC dI cA M p R s m args meth cd) (hc : am_chk M pc (.invokevirtual k :: c) = true) (hl : ls.size = am_mL M) (P : am_hp base dC dI cA s h H locs) (has : as = (S.take (am_na k)).reverse) (hn1 : am_na k ≤ S.length) (hn2 : S.length ≤ am_na k + 4) (hrc : am_recv h k as = true)
    (hM : Met l (am_y k) (am_ws k) { frames := am_fr k, cells := mc, slots := ms, locals := am_lc k } (am_Pc E base xa dC dI cA as h) (am_Qc base xa dC dI cA v h2) mc ms (fun q => base ≤ q)) (h1c : cells + mc ≤ R.cells) (h1s : slots + ms ≤ R.slots)
    (kk : ∀ (H1 : Heap) (locs1 : List Loc), am_chk M (pc + 3) c = true → am_hp base dC dI cA s h2 H1 locs1 → W p l e R s m args below meth cd H1 locs1 (cells + mc) (slots + ms) Q (F0 m (pc + 3) ls ((v.toList ++ S.drop (am_na k)).map (am_mp base xa)))) : W p l e R s m args below meth cd H locs cells slots Q (F0 m pc ls (S.map (am_mp base xa))) := by
  obtain ⟨j, len, h1, h2', h3⟩ := am_chk_cons (fun t e => by cases e) hc
  simp only [am_ins, Bool.and_eq_true, decide_eq_true_eq, beq_iff_eq, List.any_eq_true] at h2'
  obtain ⟨⟨⟨⟨rfl, hk⟩, hfr⟩, hlc⟩, q, hq, ⟨hq1, hq2⟩, hqj⟩ := h2'
  have hcw := List.all_eq_true.mp am_C_ok q hq
  have hmo := am_m_ok k hk
  simp only [am_mok, Bool.and_eq_true, Bool.or_eq_true, decide_eq_true_eq] at hmo
  obtain ⟨⟨⟨⟨⟨ho1, ho2⟩, ho3⟩, ho4⟩, ho5⟩, ho6⟩ := hmo
  have hS : S.map (am_mp base xa) = (as.map (am_mp base xa)).reverse ++ (S.drop (am_na k)).map (am_mp base xa) := by
    rw [has, List.map_reverse, List.reverse_reverse, ← List.map_append, List.take_append_drop]
  have hlen : as.length = am_na k := by rw [has, List.length_reverse, List.length_take]; omega
  have hcat : ((List.drop (am_na k) S).map (am_mp base xa) |>.map fun v => v.category).sum ≤ 8 := am_catsum (by rw [List.length_drop]; omega)
  have hroom : (2 * 0 + ((List.drop (am_na k) S).map (am_mp base xa) |>.map fun v => v.category).sum) ≤ 8 := by omega
  have hkk : ∀ (H1 : Heap) (locs1 : List Loc), am_hp base dC dI cA s h2 H1 locs1 → W p l e R s m args below meth cd H1 locs1 (cells + mc) (slots + ms) Q (F0 m (pc + 3) ls ((v.map (am_mp base xa)).toList ++ (S.drop (am_na k)).map (am_mp base xa))) := by
    intro H1 locs1 q
    have := kk H1 locs1 h3 q
    rw [List.map_append] at this
    cases v <;> exact this
  have hts := C.2.2.2.2.1
  have hin := am_ws_in hk
  have hfix : CallFix p m cd (am_cc M) (am_mL M) s args lw_good (am_cls (am_own M)) := ⟨C.1, C.2.1, C.2.2.1, C.2.2.2.1, hts⟩
  have hR : am_fr k + 1 ≤ R.frames ∧ 8 + (am_mL k + 11) + am_lc k ≤ R.locals := ⟨Nat.le_trans hfr C.2.2.2.2.2.1, Nat.le_trans hlc C.2.2.2.2.2.2.1⟩
  have hpre := am_Pc_pre C P as
  unfold am_cw at hcw
  simp only [Bool.and_eq_true, decide_eq_true_eq] at hcw
  obtain ⟨⟨⟨⟨⟨w4, w1⟩, w2⟩, w3⟩, w5⟩, w6⟩ := hcw
  rw [hq2] at w4 w1 w2 w3 w5
  rw [hq1] at w1
  rw [hS]
  by_cases k0 : q.2.2.2.1 = 0
  · simp only [k0] at w1 w2 w3 w5 hqj
    simp at w1 w2 w3 hqj
    subst hqj
    have hnst : am_st k = false := by simpa using w2.2
    rw [hnst] at ho5
    unfold am_recv at hrc
    rw [hnst] at hrc
    simp only [Bool.false_or] at hrc
    split at hrc
    · rename_i r As
      have hrun := va_runV (As := As.map (am_mp base xa)) (rest := (S.drop (am_na k)).map (am_mp base xa)) (b := base + r) (e := e) (below := below) (meth := meth) (H := H) (locs := locs) (cells := cells) (slots := slots) (g := F0 m pc ls (((Value.ref r :: As).map (am_mp base xa)).reverse ++ (S.drop (am_na k)).map (am_mp base xa))) hfix hM
        (cwV (C := (am_y k).cls) (am_na k - 1) hts (am_GoodIn (fun w hw => by
          unfold wsV at hw
          rcases List.mem_append.mp hw with hw | hw
          · simp only [List.mem_cons, List.not_mem_nil, or_false] at hw
            rcases hw with rfl | rfl | rfl | rfl
            · exact am_wd_in w1
            · exact am_wd_in w2.1
            · exact am_wd_in w3
            · exact am_wd_in w4
          · exact hin w hw)) rfl rfl rfl ⟨rfl, ho3, ho4, ho5⟩ hR)
        ⟨hpre.1, by
          have hrec := am_obj_wl (base := base) (cA := cA) hrc
          have ho10 : am_own k < 10 := by
            rcases Nat.lt_or_ge (am_own k) 10 with z | z
            · exact z
            · exfalso
              exact am_own_lt k hk hnst z
          have := va_recv C.2.2.2.2.2.2.2.1.1 P.1 (am_vwCl ho10) hrec
          rw [ho1] at this
          exact this, hpre.2⟩ rfl (by rw [List.length_map]; simp at hlen; omega) hl (by simp [am_mp]) hroom h1 ⟨h1c, h1s⟩
      exact am_callW hrun P.2.2 hkk
    · cases hrc
  · by_cases k1 : q.2.2.2.1 = 1
    · simp only [k1] at w1 w2 w3 w5 hqj
      simp at w1 w2 hqj
      subst hqj
      rw [w2.2] at ho5
      have hrun := va_runS (As := as.map (am_mp base xa)) (rest := (S.drop (am_na k)).map (am_mp base xa)) (e := e) (below := below) (meth := meth) (H := H) (locs := locs) (cells := cells) (slots := slots) (g := F0 m pc ls ((as.map (am_mp base xa)).reverse ++ (S.drop (am_na k)).map (am_mp base xa))) hfix hM
        (va_cwS (am_na k) hts (am_GoodIn (fun w hw => by
          unfold va_wsS at hw
          rcases List.mem_append.mp hw with hw | hw
          · simp only [List.mem_cons, List.not_mem_nil, or_false] at hw
            rcases hw with rfl | rfl | rfl
            · exact am_wd_in w1
            · exact am_wd_in w2.1
            · exact am_wd_in w4
          · exact hin w hw)) rfl rfl rfl ⟨ho3, ho4, by simpa using ho5⟩ hR)
        hpre rfl (by rw [List.length_map]; exact hlen) hl rfl hroom h1 ⟨h1c, h1s⟩
      exact am_callW hrun P.2.2 hkk
    · by_cases k4 : q.2.2.2.1 = 4
      · simp only [k4] at w1 w2 w3 w5 hqj
        simp at w1 w2 hqj
        subst hqj
        rw [w2.2] at ho5
        have hrun := va_runSN (As := as.map (am_mp base xa)) (rest := (S.drop (am_na k)).map (am_mp base xa)) (e := e) (below := below) (meth := meth) (H := H) (locs := locs) (cells := cells) (slots := slots) (g := F0 m pc ls ((as.map (am_mp base xa)).reverse ++ (S.drop (am_na k)).map (am_mp base xa))) hfix hM
          ⟨va_cnB (am_na k) hts (am_GoodIn hin) rfl rfl rfl (C.2.2.2.2.2.2.2.1.2.1 _ (List.mem_of_getElem? w1) rfl) (hts _ (am_wd_in w4)) ⟨ho3, ho4, by simpa using ho5⟩ hR, hts _ (am_wd_in w2.1), trivial⟩
          hpre rfl (by rw [List.length_map]; exact hlen) hl rfl hroom h1 ⟨h1c, h1s⟩
        exact am_callW hrun P.2.2 hkk
      · have hk23 : q.2.2.2.1 = 2 ∨ q.2.2.2.1 = 3 := by omega
        simp only [k1, k4, or_self, if_false, Bool.and_eq_true] at w2
        have hnst : am_st k = false := by simpa using w2.2
        rw [hnst] at ho5
        unfold am_recv at hrc
        rw [hnst] at hrc
        simp only [Bool.false_or] at hrc
        simp only [k0, k1, k4, or_self, if_false] at hqj
        subst hqj
        rw [if_pos hk23] at w5
        have w5 : (am_y k).name = "<init>" := by simpa using w5
        split at hrc
        · rename_i r As
          rcases hk23 with k2 | k3
          · simp only [k2] at w1
            simp at w1
            have hrun := va_runI (As := As.map (am_mp base xa)) (rest := (S.drop (am_na k)).map (am_mp base xa)) (b := base + r) (e := e) (below := below) (meth := meth) (H := H) (locs := locs) (cells := cells) (slots := slots) (g := F0 m pc ls (((Value.ref r :: As).map (am_mp base xa)).reverse ++ (S.drop (am_na k)).map (am_mp base xa))) hfix hM
              (cwI (am_na k - 1) hts (am_GoodIn hin) (by unfold am_ws; rw [am_init_rt k hk w5]) rfl rfl (hts _ (am_wd_in w4)) (hts _ (am_wd_in w1)) (hts _ (am_wd_in w2.1)) w5 ⟨ho3, ho4, ho5⟩ hR)
              hpre rfl (by rw [List.length_map]; simp at hlen; omega) hl (by simp [am_mp]) hroom h1 ⟨h1c, h1s⟩
            exact am_callW hrun P.2.2 hkk
          · simp only [k3] at w1
            simp at w1
            have hrun := va_runIN (As := As.map (am_mp base xa)) (rest := (S.drop (am_na k)).map (am_mp base xa)) (b := base + r) (e := e) (below := below) (meth := meth) (H := H) (locs := locs) (cells := cells) (slots := slots) (g := F0 m pc ls (((Value.ref r :: As).map (am_mp base xa)).reverse ++ (S.drop (am_na k)).map (am_mp base xa))) hfix hM
              ⟨va_cnB (am_na k - 1) hts (am_GoodIn hin) (by unfold am_ws; rw [am_init_rt k hk w5]) rfl rfl (C.2.2.2.2.2.2.2.1.2.1 _ (List.mem_of_getElem? w1) rfl) (hts _ (am_wd_in w4)) ⟨ho3, ho4, ho5⟩ hR, w5, hts _ (am_wd_in w2.1)⟩
              hpre rfl (by rw [List.length_map]; simp at hlen; omega) hl (by simp [am_mp]) hroom h1 ⟨h1c, h1s⟩
            exact am_callW hrun P.2.2 hkk
        · cases hrc
end SndC
