/-! PICTURES OF THE ABSTRACT HEAP IN THE MACHINE'S -/
def am_mp (base : Nat) (xa : Nat → Nat) : Value → Value := fun v => match v with
  | .ref k => .ref (base + k)
  | .retAddr i => .ref (xa i)
  | w => w
def am_fsv (base : Nat) (h : aH) (c k : Nat) : List Value := (List.range (am_N c)).map (fun i => am_mp base id (am_fv h c k i))
def am_va (base : Nat) (h : aH) (t n k : Nat) : vp_A := (n, if t < 2 then .inl (h.2.2.1 k) else if t = 2 then .inr (.inl (h.2.2.2 k)) else .inr (.inr (.inr (.inr (fun i => (h.2.1 k i).map (fun j => base + j))))))
def am_cell (base : Nat) (cA : Nat → ClassId) (h : aH) (k : Nat) : va_E := match h.1[k]? with
  | some (.inl c) => .inr (c, am_fsv base h c k)
  | some (.inr (t, n)) => .inl (cA t, am_va base h t n k)
  | none => .inr (0, [])
def am_wl (base : Nat) (cA : Nat → ClassId) (h : aH) : va_W := (List.range h.1.length).map (fun k => (base + k, am_cell base cA h k))
theorem am_wl_get {base : Nat} {cA : Nat → ClassId} {h : aH} {k : Nat} (hk : k < h.1.length) : (am_wl base cA h)[k]? = some (base + k, am_cell base cA h k) := by
  simp [am_wl, hk]
theorem am_wl_some {base : Nat} {cA : Nat → ClassId} {h : aH} {k : Nat} {q : Nat × va_E} (hq : (am_wl base cA h)[k]? = some q) : k < h.1.length ∧ q = (base + k, am_cell base cA h k) := by
  have hk : k < h.1.length := by
    have := (List.getElem?_eq_some_iff.mp hq).1
    simpa [am_wl] using this
  rw [am_wl_get hk] at hq
  exact ⟨hk, (Option.some.inj hq).symm⟩
theorem am_wl_D (base : Nat) (cA : Nat → ClassId) (h : aH) : va_D (fun q => base ≤ q) (am_wl base cA h) := by
  refine ⟨fun i j p q hp hq e => ?_, fun k q hq => ?_⟩
  · obtain ⟨_, rfl⟩ := am_wl_some hp
    obtain ⟨_, rfl⟩ := am_wl_some hq
    simp only at e
    omega
  · obtain ⟨_, rfl⟩ := am_wl_some hq
    exact Nat.le_add_right _ _
theorem am_wl_set {base : Nat} {cA : Nat → ClassId} {h h' : aH} {k : Nat} (hl : h'.1 = h.1) (ho : ∀ j, j ≠ k → am_cell base cA h' j = am_cell base cA h j) : (am_wl base cA h).set k (base + k, am_cell base cA h' k) = am_wl base cA h' := by
  apply List.ext_getElem?
  intro j
  rw [List.getElem?_set]
  by_cases hj : k = j
  · subst hj
    by_cases hk : k < h.1.length
    · simp [am_wl, hl, hk]
    · simp [am_wl, hl, hk]
  · simp only [hj, if_false]
    by_cases hk : j < h.1.length
    · rw [am_wl_get hk, am_wl_get (by rw [hl]; exact hk), ho j (fun e => hj e.symm)]
    · simp [am_wl, hl, hk]
theorem am_wl_push {base : Nat} {cA : Nat → ClassId} {h : aH} {q : Nat ⊕ (Nat × Nat)} : am_wl base cA (am_lay h q) = am_wl base cA h ++ [(base + h.1.length, am_cell base cA (am_lay h q) h.1.length)] := by
  have hlen : (am_lay h q).1.length = h.1.length + 1 := by simp [am_lay]
  unfold am_wl
  rw [hlen, List.range_succ, List.map_append]
  congr 1
  apply List.map_congr_left
  intro k hk
  have hk : k < h.1.length := List.mem_range.mp hk
  have hne : k ≠ h.1.length := Nat.ne_of_lt hk
  congr 1
  unfold am_cell
  have e1 : (am_lay h q).1[k]? = h.1[k]? := by simp [am_lay, List.getElem?_append_left hk]
  rw [e1]
  have e2 : (am_lay h q).2.1 k = h.2.1 k := by simp [am_lay, am_blk, hne]
  have e3 : (am_lay h q).2.2.1 k = h.2.2.1 k := by simp [am_lay, am_blk, hne]
  have e4 : (am_lay h q).2.2.2 k = h.2.2.2 k := by simp [am_lay, am_blk, hne]
  have e5 : ∀ c i, am_fv (am_lay h q) c k i = am_fv h c k i := fun c i => by unfold am_fv; rw [e2, e3, e4]
  have e6 : ∀ c, am_fsv base (am_lay h q) c k = am_fsv base h c k := fun c => by unfold am_fsv; simp only [e5]
  have e7 : ∀ t n, am_va base (am_lay h q) t n k = am_va base h t n k := fun t n => by unfold am_va; rw [e2, e3, e4]
  simp only [e6, e7]
theorem am_vwCl {c : Nat} (h : c < 10) : vwCl[c]? = some (am_cls c, am_Tx c, am_N c) := by
  rcases (show c = 0 ∨ c = 1 ∨ c = 2 ∨ c = 3 ∨ c = 4 ∨ c = 5 ∨ c = 6 ∨ c = 7 ∨ c = 8 ∨ c = 9 by omega) with rfl | rfl | rfl | rfl | rfl | rfl | rfl | rfl | rfl | rfl <;> rfl
def am_tys (cA : Nat → ClassId) : List (ClassId × FieldType) := (List.range 7).map (fun t => (cA t, am_et t))
theorem am_tys_get {cA : Nat → ClassId} {t : Nat} (h : t < 7) : (am_tys cA)[t]? = some (cA t, am_et t) := by simp [am_tys, h]
/-- locals -/
def am_lrel (base : Nat) (xa : Nat → Nat) (L : List Value) (ls : Array Slot) (nL : Nat) : Prop := ls.size = nL ∧ L.length = nL ∧ lv_wf ls ∧ ∀ (i : Nat) (v : Value), L[i]? = some v → v ≠ am_dm → ls[i]? = some (.val (am_mp base xa v))
def am_lvs (base : Nat) (xa : Nat → Nat) (L : List Value) : List (Nat × Value) := (List.range L.length).flatMap (fun i => match L[i]? with
  | some v => if v = am_dm then [] else [(i, am_mp base xa v)]
  | none => [])
theorem am_lvs_mem {base : Nat} {xa : Nat → Nat} {L : List Value} {i : Nat} {w : Value} : (i, w) ∈ am_lvs base xa L ↔ ∃ v, L[i]? = some v ∧ v ≠ am_dm ∧ w = am_mp base xa v := by
  unfold am_lvs
  rw [List.mem_flatMap]
  constructor
  · rintro ⟨j, hj, hm⟩
    have hj : j < L.length := List.mem_range.mp hj
    rw [List.getElem?_eq_getElem hj] at hm
    dsimp only at hm
    by_cases hd : L[j] = am_dm
    · rw [if_pos hd] at hm; cases hm
    · rw [if_neg hd] at hm
      have := List.mem_singleton.mp hm
      cases this
      exact ⟨_, List.getElem?_eq_getElem hj, hd, rfl⟩
  · rintro ⟨v, h1, h2, rfl⟩
    refine ⟨i, List.mem_range.mpr (List.getElem?_eq_some_iff.mp h1).1, ?_⟩
    rw [h1]
    dsimp only
    rw [if_neg h2]
    exact List.mem_singleton.mpr rfl
theorem am_lrel.has {base : Nat} {xa : Nat → Nat} {L : List Value} {ls : Array Slot} {nL : Nat} (h : am_lrel base xa L ls nL) : lv_has ls nL (am_lvs base xa L) := by
  refine ⟨h.1, h.2.2.1, ?_⟩
  rintro ⟨i, w⟩ hq
  obtain ⟨v, h1, h2, rfl⟩ := am_lvs_mem.mp hq
  exact h.2.2.2 i v h1 h2
theorem am_lrel.of {base : Nat} {xa : Nat → Nat} {L : List Value} {ls : Array Slot} {nL : Nat} {lv : List (Nat × Value)} (h : lv_has ls nL lv) (hL : L.length = nL) (hm : ∀ (i : Nat) (v : Value), L[i]? = some v → v ≠ am_dm → (i, am_mp base xa v) ∈ lv) : am_lrel base xa L ls nL :=
  ⟨h.1, hL, h.2.1, fun i v h1 h2 => h.2.2 _ (hm i v h1 h2)⟩
theorem am_set1_len (L : List Value) (n : Nat) (v : Value) : (am_set1 L n v).length = L.length := by
  induction L generalizing n with
  | nil => rfl
  | cons a L ih => match n with
    | 0 => rfl
    | 1 => simp [am_set1, ih]
    | n + 2 => simp [am_set1, ih]
theorem am_set1_get (L : List Value) (n : Nat) (v : Value) (j : Nat) : (am_set1 L n v)[j]? = if j = n then (if n < L.length then some v else none) else if j + 1 = n ∧ n < L.length + 1 then (L[j]?).map am_kp else L[j]? := by
  induction L generalizing n j with
  | nil => by_cases h : j = n <;> simp [am_set1, h]
  | cons a L ih => match n, j with
    | 0, 0 => simp [am_set1]
    | 0, j + 1 => simp [am_set1]
    | 1, 0 => simp [am_set1]
    | 1, j + 1 =>
      rw [am_set1, List.getElem?_cons_succ, ih]
      by_cases h : j = 0 <;> simp [h]
    | n + 2, 0 => simp [am_set1]
    | n + 2, j + 1 =>
      rw [am_set1, List.getElem?_cons_succ, ih]
      by_cases h : j = n + 1
      · subst h
        have e : (n + 2 < L.length + 1) = (n + 1 < L.length) := propext ⟨fun q => by omega, fun q => by omega⟩
        simp [e]
      · by_cases h2 : j = n
        · simp [h2]
        · simp [h, h2]
theorem am_set2_len (L : List Value) (n : Nat) (v : Value) : (am_set2 L n v).length = L.length := by
  simp [am_set2, am_set1_len]
theorem am_set2_get (L : List Value) (n : Nat) (v : Value) (hn : n + 1 < L.length) (j : Nat) : (am_set2 L n v)[j]? = if j = n then some v else if j = n + 1 then some am_dm else if j + 1 = n then (L[j]?).map am_kp else L[j]? := by
  unfold am_set2
  rw [List.getElem?_set, am_set1_len, am_set1_get]
  by_cases h1 : j = n
  · subst h1
    simp [show j < L.length by omega]
  · by_cases h2 : j = n + 1
    · subst h2
      simp [hn]
    · rw [if_neg (fun e => h2 e.symm), if_neg h1, if_neg h1, if_neg h2]
      by_cases h3 : j + 1 = n
      · rw [if_pos h3, if_pos ⟨h3, by omega⟩]
      · rw [if_neg h3, if_neg (fun e => h3 e.1)]
theorem am_mp_cat (base : Nat) (xa : Nat → Nat) (v : Value) (h : ∀ i, v ≠ .retAddr i) : (am_mp base xa v).category = v.category := by
  cases v <;> first | rfl | exact absurd rfl (h _)
theorem am_kp_cat {v : Value} (h : v.category = 2) : am_kp v = am_dm := by cases v <;> first | rfl | (simp [Value.category] at h)
theorem am_kp_one {v : Value} (h : ¬ v.category = 2) : am_kp v = v := by cases v <;> first | rfl | (simp [Value.category] at h)
theorem am_mp_cat2 {base : Nat} {xa : Nat → Nat} {v : Value} (h : (am_mp base xa v).category = 2) : v.category = 2 := by
  cases v <;> first | exact h | (simp [am_mp, Value.category] at h)
theorem am_lrel_set1 {base : Nat} {xa : Nat → Nat} {L : List Value} {ls' : Array Slot} {nL n : Nat} {v : Value} (hL : L.length = nL) (h : lv_has ls' nL ((n, am_mp base xa v) :: (am_lvs base xa L).filter (fun q => !(q.1 == n) && !(q.1 + 1 == n && q.2.category == 2)))) : am_lrel base xa (am_set1 L n v) ls' nL := by
  refine am_lrel.of h (by rw [am_set1_len, hL]) (fun i w hi hw => ?_)
  rw [am_set1_get] at hi
  by_cases h1 : i = n
  · subst h1
    simp only [if_true] at hi
    split at hi
    · cases hi; exact List.mem_cons_self
    · cases hi
  · rw [if_neg h1] at hi
    refine List.mem_cons_of_mem _ (List.mem_filter.mpr ?_)
    split at hi
    · rename_i h2
      cases hg : L[i]? with
      | none => rw [hg] at hi; cases hi
      | some u =>
        rw [hg] at hi
        have hi : am_kp u = w := Option.some.inj hi
        by_cases hc : u.category = 2
        · rw [am_kp_cat hc] at hi; exact absurd hi.symm hw
        · rw [am_kp_one hc] at hi
          subst hi
          refine ⟨am_lvs_mem.mpr ⟨_, hg, hw, rfl⟩, ?_⟩
          have hc' : ¬ (am_mp base xa u).category = 2 := fun e => hc (am_mp_cat2 e)
          simp [h1, hc']
    · rename_i h2
      refine ⟨am_lvs_mem.mpr ⟨_, hi, hw, rfl⟩, ?_⟩
      have hlt : i < L.length := (List.getElem?_eq_some_iff.mp hi).1
      have h3 : ¬ i + 1 = n := fun e => h2 ⟨e, by omega⟩
      simp [h1, h3]
theorem am_lrel_set2 {base : Nat} {xa : Nat → Nat} {L : List Value} {ls' : Array Slot} {nL n : Nat} {v : Value} (hL : L.length = nL) (hn : n + 1 < L.length) (h : lv_has ls' nL ((n, am_mp base xa v) :: (am_lvs base xa L).filter (fun q => !(q.1 == n) && (!(q.1 == n + 1) && !(q.1 + 1 == n && q.2.category == 2))))) : am_lrel base xa (am_set2 L n v) ls' nL := by
  refine am_lrel.of h (by rw [am_set2_len, hL]) (fun i w hi hw => ?_)
  rw [am_set2_get _ _ _ hn] at hi
  by_cases h1 : i = n
  · subst h1
    simp only [if_true] at hi
    cases hi; exact List.mem_cons_self
  · rw [if_neg h1] at hi
    by_cases h4 : i = n + 1
    · rw [if_pos h4] at hi
      cases hi
      exact absurd rfl hw
    rw [if_neg h4] at hi
    refine List.mem_cons_of_mem _ (List.mem_filter.mpr ?_)
    split at hi
    · rename_i h2
      cases hg : L[i]? with
      | none => rw [hg] at hi; cases hi
      | some u =>
        rw [hg] at hi
        have hi : am_kp u = w := Option.some.inj hi
        by_cases hc : u.category = 2
        · rw [am_kp_cat hc] at hi; exact absurd hi.symm hw
        · rw [am_kp_one hc] at hi
          subst hi
          refine ⟨am_lvs_mem.mpr ⟨_, hg, hw, rfl⟩, ?_⟩
          have hc' : ¬ (am_mp base xa u).category = 2 := fun e => hc (am_mp_cat2 e)
          simp [h1, h4, hc']
    · rename_i h2
      refine ⟨am_lvs_mem.mpr ⟨_, hi, hw, rfl⟩, ?_⟩
      simp [h1, h4, h2]
/-- the locals at a method's entry -/
theorem am_loc_args (base : Nat) (xa : Nat → Nat) (as : List Value) : ∀ (i j : Nat) (w : Value), (am_loc as)[j]? = some w → w ≠ am_dm → (i + j, am_mp base xa w) ∈ lv_args i (as.map (am_mp base xa)) := by
  induction as with
  | nil => intro i j w h; simp [am_loc] at h
  | cons v vs ih =>
    intro i j w h hw
    unfold am_loc at h
    simp only [List.map_cons, lv_args]
    by_cases hc : v.category = 2
    · have hc2 : (am_mp base xa v).category = 2 := by cases v <;> first | exact hc | (simp [Value.category] at hc)
      rw [if_pos hc] at h
      match j, h with
      | 0, h => cases h; exact List.mem_cons_self
      | 1, h => cases h; exact absurd rfl hw
      | j + 2, h =>
        refine List.mem_cons_of_mem _ ?_
        rw [if_pos hc2, show i + (j + 2) = i + 2 + j by omega]
        exact ih _ _ _ h hw
    · have hc2 : ¬ (am_mp base xa v).category = 2 := fun e => hc (am_mp_cat2 e)
      rw [if_neg hc] at h
      match j, h with
      | 0, h => cases h; exact List.mem_cons_self
      | j + 1, h =>
        refine List.mem_cons_of_mem _ ?_
        rw [if_neg hc2, show i + (j + 1) = i + 1 + j by omega]
        exact ih _ _ _ h hw
theorem am_loc_len (base : Nat) (xa : Nat → Nat) (as : List Value) : (lg_sl (as.map (am_mp base xa))).length = (am_loc as).length := by
  induction as with
  | nil => rfl
  | cons v vs ih =>
    simp only [List.map_cons, am_loc, lg_sl, List.flatMap_cons, List.length_append]
    have ih' : (List.flatMap (fun v : Value => if v.category = 2 then [Slot.val v, .second] else [.val v]) (List.map (am_mp base xa) vs)).length = (am_loc vs).length := ih
    rw [ih']
    by_cases hc : v.category = 2
    · have hc2 : (am_mp base xa v).category = 2 := by cases v <;> first | exact hc | (simp [Value.category] at hc)
      simp [hc, hc2]; omega
    · have hc2 : ¬ (am_mp base xa v).category = 2 := fun e => hc (am_mp_cat2 e)
      simp [hc, hc2]; omega
theorem am_lrel_entry {base : Nat} {xa : Nat → Nat} {as : List Value} {M : Nat} (h : (am_loc as).length ≤ am_mL M) : am_lrel base xa (am_ent M as) ((lg_sl (as.map (am_mp base xa)) ++ List.replicate (am_mL M - (lg_sl (as.map (am_mp base xa))).length) Slot.unset).toArray) (am_mL M) := by
  have h1 := lv_entry (as.map (am_mp base xa)) (n := am_mL M) (by rw [am_loc_len]; exact h)
  refine am_lrel.of h1 (by simp [am_ent]; omega) (fun i v hi hv => ?_)
  unfold am_ent at hi
  by_cases hlt : i < (am_loc as).length
  · rw [List.getElem?_append_left hlt] at hi
    have := am_loc_args base xa as 0 i v hi hv
    rwa [Nat.zero_add] at this
  · rw [List.getElem?_append_right (by omega), List.getElem?_replicate] at hi
    split at hi
    · cases hi; exact absurd rfl hv
    · cases hi
